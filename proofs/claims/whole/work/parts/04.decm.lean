theorem dX5_in_0 : decode cX5_in 0 = .ok (.iload_n 0, 1) := by decide +kernel
theorem dX5_in_1 : decode cX5_in 1 = .ok (.iload_n 1, 1) := by decide +kernel
theorem dX5_in_2 : decode cX5_in 2 = .ok (.if_icmp .lt 12, 3) := by decide +kernel
theorem dX5_in_5 : decode cX5_in 5 = .ok (.iload_n 0, 1) := by decide +kernel
theorem dX5_in_6 : decode cX5_in 6 = .ok (.iload_n 2, 1) := by decide +kernel
theorem dX5_in_7 : decode cX5_in 7 = .ok (.if_icmp .gt 7, 3) := by decide +kernel
theorem dX5_in_10 : decode cX5_in 10 = .ok (.iconst 1, 1) := by decide +kernel
theorem dX5_in_11 : decode cX5_in 11 = .ok (.goto 4, 3) := by decide +kernel
theorem dX5_in_14 : decode cX5_in 14 = .ok (.iconst 0, 1) := by decide +kernel
theorem dX5_in_15 : decode cX5_in 15 = .ok (.ireturn, 1) := by decide +kernel
theorem dX5_has_0 : decode cX5_has 0 = .ok (.iload_n 0, 1) := by decide +kernel
theorem dX5_has_1 : decode cX5_has 1 = .ok (.iload_n 1, 1) := by decide +kernel
theorem dX5_has_2 : decode cX5_has 2 = .ok (.ishr, 1) := by decide +kernel
theorem dX5_has_3 : decode cX5_has 3 = .ok (.iconst 1, 1) := by decide +kernel
theorem dX5_has_4 : decode cX5_has 4 = .ok (.iand, 1) := by decide +kernel
theorem dX5_has_5 : decode cX5_has 5 = .ok (.iconst 1, 1) := by decide +kernel
theorem dX5_has_6 : decode cX5_has 6 = .ok (.if_icmp .ne 7, 3) := by decide +kernel
theorem dX5_has_9 : decode cX5_has 9 = .ok (.iconst 1, 1) := by decide +kernel
theorem dX5_has_10 : decode cX5_has 10 = .ok (.goto 4, 3) := by decide +kernel
theorem dX5_has_13 : decode cX5_has 13 = .ok (.iconst 0, 1) := by decide +kernel
theorem dX5_has_14 : decode cX5_has 14 = .ok (.ireturn, 1) := by decide +kernel
theorem dX5_greater_0 : decode cX5_greater 0 = .ok (.iload_n 0, 1) := by decide +kernel
theorem dX5_greater_1 : decode cX5_greater 1 = .ok (.iload_n 1, 1) := by decide +kernel
theorem dX5_greater_2 : decode cX5_greater 2 = .ok (.if_icmp .le 7, 3) := by decide +kernel
theorem dX5_greater_5 : decode cX5_greater 5 = .ok (.iload_n 0, 1) := by decide +kernel
theorem dX5_greater_6 : decode cX5_greater 6 = .ok (.goto 4, 3) := by decide +kernel
theorem dX5_greater_9 : decode cX5_greater 9 = .ok (.iload_n 1, 1) := by decide +kernel
theorem dX5_greater_10 : decode cX5_greater 10 = .ok (.ireturn, 1) := by decide +kernel
theorem dX5_bits_0 : decode cX5_bits 0 = .ok (.iconst 0, 1) := by decide +kernel
theorem dX5_bits_1 : decode cX5_bits 1 = .ok (.istore_n 1, 1) := by decide +kernel
theorem dX5_bits_2 : decode cX5_bits 2 = .ok (.iconst 0, 1) := by decide +kernel
theorem dX5_bits_3 : decode cX5_bits 3 = .ok (.istore_n 2, 1) := by decide +kernel
theorem dX5_bits_4 : decode cX5_bits 4 = .ok (.iload_n 2, 1) := by decide +kernel
theorem dX5_bits_5 : decode cX5_bits 5 = .ok (.bipush 6, 2) := by decide +kernel
theorem dX5_bits_7 : decode cX5_bits 7 = .ok (.if_icmp .ge 17, 3) := by decide +kernel
theorem dX5_bits_10 : decode cX5_bits 10 = .ok (.iload_n 1, 1) := by decide +kernel
theorem dX5_bits_11 : decode cX5_bits 11 = .ok (.iload_n 0, 1) := by decide +kernel
theorem dX5_bits_12 : decode cX5_bits 12 = .ok (.iload_n 2, 1) := by decide +kernel
theorem dX5_bits_13 : decode cX5_bits 13 = .ok (.ishr, 1) := by decide +kernel
theorem dX5_bits_14 : decode cX5_bits 14 = .ok (.iconst 1, 1) := by decide +kernel
theorem dX5_bits_15 : decode cX5_bits 15 = .ok (.iand, 1) := by decide +kernel
theorem dX5_bits_16 : decode cX5_bits 16 = .ok (.iadd, 1) := by decide +kernel
theorem dX5_bits_17 : decode cX5_bits 17 = .ok (.istore_n 1, 1) := by decide +kernel
theorem dX5_bits_18 : decode cX5_bits 18 = .ok (.iinc 2 1, 3) := by decide +kernel
theorem dX5_bits_21 : decode cX5_bits 21 = .ok (.goto (-17), 3) := by decide +kernel
theorem dX5_bits_24 : decode cX5_bits 24 = .ok (.iload_n 1, 1) := by decide +kernel
theorem dX5_bits_25 : decode cX5_bits 25 = .ok (.ireturn, 1) := by decide +kernel
theorem dX5_init_0 : decode cX5_init 0 = .ok (.aload_n 0, 1) := by decide +kernel
theorem dX5_init_1 : decode cX5_init 1 = .ok (.invokespecial 3, 3) := by decide +kernel
theorem dX5_init_4 : decode cX5_init 4 = .ok (.aload_n 0, 1) := by decide +kernel
theorem dX5_init_5 : decode cX5_init 5 = .ok (.bipush 6, 2) := by decide +kernel
theorem dX5_init_7 : decode cX5_init 7 = .ok (.newarray .int, 2) := by decide +kernel
theorem dX5_init_9 : decode cX5_init 9 = .ok (.putfield 9, 3) := by decide +kernel
theorem dX5_init_12 : decode cX5_init 12 = .ok (.aload_n 0, 1) := by decide +kernel
theorem dX5_init_13 : decode cX5_init 13 = .ok (.bipush 6, 2) := by decide +kernel
theorem dX5_init_15 : decode cX5_init 15 = .ok (.newarray .int, 2) := by decide +kernel
theorem dX5_init_17 : decode cX5_init 17 = .ok (.putfield 13, 3) := by decide +kernel
theorem dX5_init_20 : decode cX5_init 20 = .ok (.aload_n 0, 1) := by decide +kernel
theorem dX5_init_21 : decode cX5_init 21 = .ok (.bipush 12, 2) := by decide +kernel
theorem dX5_init_23 : decode cX5_init 23 = .ok (.newarray .int, 2) := by decide +kernel
theorem dX5_init_25 : decode cX5_init 25 = .ok (.putfield 16, 3) := by decide +kernel
theorem dX5_init_28 : decode cX5_init 28 = .ok (.aload_n 0, 1) := by decide +kernel
theorem dX5_init_29 : decode cX5_init 29 = .ok (.bipush 30, 2) := by decide +kernel
theorem dX5_init_31 : decode cX5_init 31 = .ok (.newarray .int, 2) := by decide +kernel
theorem dX5_init_33 : decode cX5_init 33 = .ok (.putfield 19, 3) := by decide +kernel
theorem dX5_init_36 : decode cX5_init 36 = .ok (.aload_n 0, 1) := by decide +kernel
theorem dX5_init_37 : decode cX5_init 37 = .ok (.iconst 5, 1) := by decide +kernel
theorem dX5_init_38 : decode cX5_init 38 = .ok (.newarray .int, 2) := by decide +kernel
theorem dX5_init_40 : decode cX5_init 40 = .ok (.putfield 22, 3) := by decide +kernel
theorem dX5_init_43 : decode cX5_init 43 = .ok (.aload_n 0, 1) := by decide +kernel
theorem dX5_init_44 : decode cX5_init 44 = .ok (.bipush 6, 2) := by decide +kernel
theorem dX5_init_46 : decode cX5_init 46 = .ok (.newarray .int, 2) := by decide +kernel
theorem dX5_init_48 : decode cX5_init 48 = .ok (.putfield 25, 3) := by decide +kernel
theorem dX5_init_51 : decode cX5_init 51 = .ok (.aload_n 0, 1) := by decide +kernel
theorem dX5_init_52 : decode cX5_init 52 = .ok (.bipush 6, 2) := by decide +kernel
theorem dX5_init_54 : decode cX5_init 54 = .ok (.newarray .int, 2) := by decide +kernel
theorem dX5_init_56 : decode cX5_init 56 = .ok (.putfield 28, 3) := by decide +kernel
theorem dX5_init_59 : decode cX5_init 59 = .ok (.aload_n 0, 1) := by decide +kernel
theorem dX5_init_60 : decode cX5_init 60 = .ok (.bipush 6, 2) := by decide +kernel
theorem dX5_init_62 : decode cX5_init 62 = .ok (.newarray .int, 2) := by decide +kernel
theorem dX5_init_64 : decode cX5_init 64 = .ok (.putfield 31, 3) := by decide +kernel
theorem dX5_init_67 : decode cX5_init 67 = .ok (.aload_n 0, 1) := by decide +kernel
theorem dX5_init_68 : decode cX5_init 68 = .ok (.sipush 200, 3) := by decide +kernel
theorem dX5_init_71 : decode cX5_init 71 = .ok (.newarray .int, 2) := by decide +kernel
theorem dX5_init_73 : decode cX5_init 73 = .ok (.putfield 34, 3) := by decide +kernel
theorem dX5_init_76 : decode cX5_init 76 = .ok (.aload_n 0, 1) := by decide +kernel
theorem dX5_init_77 : decode cX5_init 77 = .ok (.bipush 6, 2) := by decide +kernel
theorem dX5_init_79 : decode cX5_init 79 = .ok (.newarray .int, 2) := by decide +kernel
theorem dX5_init_81 : decode cX5_init 81 = .ok (.putfield 37, 3) := by decide +kernel
theorem dX5_init_84 : decode cX5_init 84 = .ok (.aload_n 0, 1) := by decide +kernel
theorem dX5_init_85 : decode cX5_init 85 = .ok (.bipush 6, 2) := by decide +kernel
theorem dX5_init_87 : decode cX5_init 87 = .ok (.newarray .int, 2) := by decide +kernel
theorem dX5_init_89 : decode cX5_init 89 = .ok (.putfield 40, 3) := by decide +kernel
theorem dX5_init_92 : decode cX5_init 92 = .ok (.aload_n 0, 1) := by decide +kernel
theorem dX5_init_93 : decode cX5_init 93 = .ok (.bipush 30, 2) := by decide +kernel
theorem dX5_init_95 : decode cX5_init 95 = .ok (.newarray .int, 2) := by decide +kernel
theorem dX5_init_97 : decode cX5_init 97 = .ok (.putfield 43, 3) := by decide +kernel
theorem dX5_init_100 : decode cX5_init 100 = .ok (.aload_n 0, 1) := by decide +kernel
theorem dX5_init_101 : decode cX5_init 101 = .ok (.iconst 5, 1) := by decide +kernel
theorem dX5_init_102 : decode cX5_init 102 = .ok (.newarray .int, 2) := by decide +kernel
theorem dX5_init_104 : decode cX5_init 104 = .ok (.putfield 46, 3) := by decide +kernel
theorem dX5_init_107 : decode cX5_init 107 = .ok (.aload_n 0, 1) := by decide +kernel
theorem dX5_init_108 : decode cX5_init 108 = .ok (.bipush 12, 2) := by decide +kernel
theorem dX5_init_110 : decode cX5_init 110 = .ok (.newarray .int, 2) := by decide +kernel
theorem dX5_init_112 : decode cX5_init 112 = .ok (.putfield 49, 3) := by decide +kernel
theorem dX5_init_115 : decode cX5_init 115 = .ok (.aload_n 0, 1) := by decide +kernel
theorem dX5_init_116 : decode cX5_init 116 = .ok (.sipush 336, 3) := by decide +kernel
theorem dX5_init_119 : decode cX5_init 119 = .ok (.newarray .int, 2) := by decide +kernel
theorem dX5_init_121 : decode cX5_init 121 = .ok (.putfield 52, 3) := by decide +kernel
theorem dX5_init_124 : decode cX5_init 124 = .ok (.aload_n 0, 1) := by decide +kernel
theorem dX5_init_125 : decode cX5_init 125 = .ok (.bipush 42, 2) := by decide +kernel
theorem dX5_init_127 : decode cX5_init 127 = .ok (.newarray .int, 2) := by decide +kernel
theorem dX5_init_129 : decode cX5_init 129 = .ok (.putfield 55, 3) := by decide +kernel
theorem dX5_init_132 : decode cX5_init 132 = .ok (.aload_n 0, 1) := by decide +kernel
theorem dX5_init_133 : decode cX5_init 133 = .ok (.iconst 2, 1) := by decide +kernel
theorem dX5_init_134 : decode cX5_init 134 = .ok (.newarray .int, 2) := by decide +kernel
theorem dX5_init_136 : decode cX5_init 136 = .ok (.putfield 58, 3) := by decide +kernel
theorem dX5_init_139 : decode cX5_init 139 = .ok (.aload_n 0, 1) := by decide +kernel
theorem dX5_init_140 : decode cX5_init 140 = .ok (.bipush 64, 2) := by decide +kernel
theorem dX5_init_142 : decode cX5_init 142 = .ok (.newarray .int, 2) := by decide +kernel
theorem dX5_init_144 : decode cX5_init 144 = .ok (.putfield 61, 3) := by decide +kernel
theorem dX5_init_147 : decode cX5_init 147 = .ok (.aload_n 0, 1) := by decide +kernel
theorem dX5_init_148 : decode cX5_init 148 = .ok (.bipush 84, 2) := by decide +kernel
theorem dX5_init_150 : decode cX5_init 150 = .ok (.newarray .int, 2) := by decide +kernel
theorem dX5_init_152 : decode cX5_init 152 = .ok (.putfield 64, 3) := by decide +kernel
theorem dX5_init_155 : decode cX5_init 155 = .ok (.aload_n 0, 1) := by decide +kernel
theorem dX5_init_156 : decode cX5_init 156 = .ok (.iconst 0, 1) := by decide +kernel
theorem dX5_init_157 : decode cX5_init 157 = .ok (.bipush 9, 2) := by decide +kernel
theorem dX5_init_159 : decode cX5_init 159 = .ok (.invokevirtual 67, 3) := by decide +kernel
theorem dX5_init_162 : decode cX5_init 162 = .ok (.aload_n 0, 1) := by decide +kernel
theorem dX5_init_163 : decode cX5_init 163 = .ok (.iconst 1, 1) := by decide +kernel
theorem dX5_init_164 : decode cX5_init 164 = .ok (.bipush 14, 2) := by decide +kernel
theorem dX5_init_166 : decode cX5_init 166 = .ok (.invokevirtual 67, 3) := by decide +kernel
theorem dX5_init_169 : decode cX5_init 169 = .ok (.aload_n 0, 1) := by decide +kernel
theorem dX5_init_170 : decode cX5_init 170 = .ok (.iconst 2, 1) := by decide +kernel
theorem dX5_init_171 : decode cX5_init 171 = .ok (.bipush 6, 2) := by decide +kernel
theorem dX5_init_173 : decode cX5_init 173 = .ok (.invokevirtual 67, 3) := by decide +kernel
theorem dX5_init_176 : decode cX5_init 176 = .ok (.aload_n 0, 1) := by decide +kernel
theorem dX5_init_177 : decode cX5_init 177 = .ok (.iconst 3, 1) := by decide +kernel
theorem dX5_init_178 : decode cX5_init 178 = .ok (.bipush 11, 2) := by decide +kernel
theorem dX5_init_180 : decode cX5_init 180 = .ok (.invokevirtual 67, 3) := by decide +kernel
theorem dX5_init_183 : decode cX5_init 183 = .ok (.aload_n 0, 1) := by decide +kernel
theorem dX5_init_184 : decode cX5_init 184 = .ok (.iconst 0, 1) := by decide +kernel
theorem dX5_init_185 : decode cX5_init 185 = .ok (.bipush 17, 2) := by decide +kernel
theorem dX5_init_187 : decode cX5_init 187 = .ok (.invokevirtual 67, 3) := by decide +kernel
theorem dX5_init_190 : decode cX5_init 190 = .ok (.iconst 0, 1) := by decide +kernel
theorem dX5_init_191 : decode cX5_init 191 = .ok (.istore_n 1, 1) := by decide +kernel
theorem dX5_init_192 : decode cX5_init 192 = .ok (.iload_n 1, 1) := by decide +kernel
theorem dX5_init_193 : decode cX5_init 193 = .ok (.iconst 5, 1) := by decide +kernel
theorem dX5_init_194 : decode cX5_init 194 = .ok (.if_icmp .ge 16, 3) := by decide +kernel
theorem dX5_init_197 : decode cX5_init 197 = .ok (.aload_n 0, 1) := by decide +kernel
theorem dX5_init_198 : decode cX5_init 198 = .ok (.getfield 22, 3) := by decide +kernel
theorem dX5_init_201 : decode cX5_init 201 = .ok (.iload_n 1, 1) := by decide +kernel
theorem dX5_init_202 : decode cX5_init 202 = .ok (.iconst 2, 1) := by decide +kernel
theorem dX5_init_203 : decode cX5_init 203 = .ok (.iastore, 1) := by decide +kernel
theorem dX5_init_204 : decode cX5_init 204 = .ok (.iinc 1 1, 3) := by decide +kernel
theorem dX5_init_207 : decode cX5_init 207 = .ok (.goto (-15), 3) := by decide +kernel
theorem dX5_init_210 : decode cX5_init 210 = .ok (.aload_n 0, 1) := by decide +kernel
theorem dX5_init_211 : decode cX5_init 211 = .ok (.getfield 22, 3) := by decide +kernel
theorem dX5_init_214 : decode cX5_init 214 = .ok (.iconst 0, 1) := by decide +kernel
theorem dX5_init_215 : decode cX5_init 215 = .ok (.iconst 3, 1) := by decide +kernel
theorem dX5_init_216 : decode cX5_init 216 = .ok (.iastore, 1) := by decide +kernel
theorem dX5_init_217 : decode cX5_init 217 = .ok (.aload_n 0, 1) := by decide +kernel
theorem dX5_init_218 : decode cX5_init 218 = .ok (.getfield 22, 3) := by decide +kernel
theorem dX5_init_221 : decode cX5_init 221 = .ok (.iconst 1, 1) := by decide +kernel
theorem dX5_init_222 : decode cX5_init 222 = .ok (.iconst 1, 1) := by decide +kernel
theorem dX5_init_223 : decode cX5_init 223 = .ok (.iastore, 1) := by decide +kernel
theorem dX5_init_224 : decode cX5_init 224 = .ok (.aload_n 0, 1) := by decide +kernel
theorem dX5_init_225 : decode cX5_init 225 = .ok (.getfield 22, 3) := by decide +kernel
theorem dX5_init_228 : decode cX5_init 228 = .ok (.iconst 3, 1) := by decide +kernel
theorem dX5_init_229 : decode cX5_init 229 = .ok (.iconst 4, 1) := by decide +kernel
theorem dX5_init_230 : decode cX5_init 230 = .ok (.iastore, 1) := by decide +kernel
theorem dX5_init_231 : decode cX5_init 231 = .ok (.aload_n 0, 1) := by decide +kernel
theorem dX5_init_232 : decode cX5_init 232 = .ok (.getfield 19, 3) := by decide +kernel
theorem dX5_init_235 : decode cX5_init 235 = .ok (.iconst 0, 1) := by decide +kernel
theorem dX5_init_236 : decode cX5_init 236 = .ok (.iconst 5, 1) := by decide +kernel
theorem dX5_init_237 : decode cX5_init 237 = .ok (.iastore, 1) := by decide +kernel
theorem dX5_init_238 : decode cX5_init 238 = .ok (.aload_n 0, 1) := by decide +kernel
theorem dX5_init_239 : decode cX5_init 239 = .ok (.getfield 19, 3) := by decide +kernel
theorem dX5_init_242 : decode cX5_init 242 = .ok (.iconst 2, 1) := by decide +kernel
theorem dX5_init_243 : decode cX5_init 243 = .ok (.iconst 3, 1) := by decide +kernel
theorem dX5_init_244 : decode cX5_init 244 = .ok (.iastore, 1) := by decide +kernel
theorem dX5_init_245 : decode cX5_init 245 = .ok (.aload_n 0, 1) := by decide +kernel
theorem dX5_init_246 : decode cX5_init 246 = .ok (.getfield 19, 3) := by decide +kernel
theorem dX5_init_249 : decode cX5_init 249 = .ok (.iconst 5, 1) := by decide +kernel
theorem dX5_init_250 : decode cX5_init 250 = .ok (.bipush 9, 2) := by decide +kernel
theorem dX5_init_252 : decode cX5_init 252 = .ok (.iastore, 1) := by decide +kernel
theorem dX5_init_253 : decode cX5_init 253 = .ok (.aload_n 0, 1) := by decide +kernel
theorem dX5_init_254 : decode cX5_init 254 = .ok (.getfield 19, 3) := by decide +kernel
theorem dX5_init_257 : decode cX5_init 257 = .ok (.bipush 11, 2) := by decide +kernel
theorem dX5_init_259 : decode cX5_init 259 = .ok (.iconst 2, 1) := by decide +kernel
theorem dX5_init_260 : decode cX5_init 260 = .ok (.iastore, 1) := by decide +kernel
theorem dX5_init_261 : decode cX5_init 261 = .ok (.aload_n 0, 1) := by decide +kernel
theorem dX5_init_262 : decode cX5_init 262 = .ok (.getfield 19, 3) := by decide +kernel
theorem dX5_init_265 : decode cX5_init 265 = .ok (.bipush 15, 2) := by decide +kernel
theorem dX5_init_267 : decode cX5_init 267 = .ok (.iconst 4, 1) := by decide +kernel
theorem dX5_init_268 : decode cX5_init 268 = .ok (.iastore, 1) := by decide +kernel
theorem dX5_init_269 : decode cX5_init 269 = .ok (.aload_n 0, 1) := by decide +kernel
theorem dX5_init_270 : decode cX5_init 270 = .ok (.getfield 19, 3) := by decide +kernel
theorem dX5_init_273 : decode cX5_init 273 = .ok (.bipush 17, 2) := by decide +kernel
theorem dX5_init_275 : decode cX5_init 275 = .ok (.bipush 6, 2) := by decide +kernel
theorem dX5_init_277 : decode cX5_init 277 = .ok (.iastore, 1) := by decide +kernel
theorem dX5_init_278 : decode cX5_init 278 = .ok (.aload_n 0, 1) := by decide +kernel
theorem dX5_init_279 : decode cX5_init 279 = .ok (.getfield 19, 3) := by decide +kernel
theorem dX5_init_282 : decode cX5_init 282 = .ok (.bipush 23, 2) := by decide +kernel
theorem dX5_init_284 : decode cX5_init 284 = .ok (.bipush 8, 2) := by decide +kernel
theorem dX5_init_286 : decode cX5_init 286 = .ok (.iastore, 1) := by decide +kernel
theorem dX5_init_287 : decode cX5_init 287 = .ok (.aload_n 0, 1) := by decide +kernel
theorem dX5_init_288 : decode cX5_init 288 = .ok (.getfield 16, 3) := by decide +kernel
theorem dX5_init_291 : decode cX5_init 291 = .ok (.iconst 0, 1) := by decide +kernel
theorem dX5_init_292 : decode cX5_init 292 = .ok (.iconst 3, 1) := by decide +kernel
theorem dX5_init_293 : decode cX5_init 293 = .ok (.iastore, 1) := by decide +kernel
theorem dX5_init_294 : decode cX5_init 294 = .ok (.aload_n 0, 1) := by decide +kernel
theorem dX5_init_295 : decode cX5_init 295 = .ok (.getfield 16, 3) := by decide +kernel
theorem dX5_init_298 : decode cX5_init 298 = .ok (.iconst 1, 1) := by decide +kernel
theorem dX5_init_299 : decode cX5_init 299 = .ok (.iconst 5, 1) := by decide +kernel
theorem dX5_init_300 : decode cX5_init 300 = .ok (.iastore, 1) := by decide +kernel
theorem dX5_init_301 : decode cX5_init 301 = .ok (.aload_n 0, 1) := by decide +kernel
theorem dX5_init_302 : decode cX5_init 302 = .ok (.getfield 16, 3) := by decide +kernel
theorem dX5_init_305 : decode cX5_init 305 = .ok (.iconst 2, 1) := by decide +kernel
theorem dX5_init_306 : decode cX5_init 306 = .ok (.iconst 2, 1) := by decide +kernel
theorem dX5_init_307 : decode cX5_init 307 = .ok (.iastore, 1) := by decide +kernel
theorem dX5_init_308 : decode cX5_init 308 = .ok (.aload_n 0, 1) := by decide +kernel
theorem dX5_init_309 : decode cX5_init 309 = .ok (.getfield 16, 3) := by decide +kernel
theorem dX5_init_312 : decode cX5_init 312 = .ok (.iconst 3, 1) := by decide +kernel
theorem dX5_init_313 : decode cX5_init 313 = .ok (.bipush 7, 2) := by decide +kernel
theorem dX5_init_315 : decode cX5_init 315 = .ok (.iastore, 1) := by decide +kernel
theorem dX5_init_316 : decode cX5_init 316 = .ok (.aload_n 0, 1) := by decide +kernel
theorem dX5_init_317 : decode cX5_init 317 = .ok (.iconst 4, 1) := by decide +kernel
theorem dX5_init_318 : decode cX5_init 318 = .ok (.putfield 71, 3) := by decide +kernel
theorem dX5_init_321 : decode cX5_init 321 = .ok (.aload_n 0, 1) := by decide +kernel
theorem dX5_init_322 : decode cX5_init 322 = .ok (.invokevirtual 75, 3) := by decide +kernel
theorem dX5_init_325 : decode cX5_init 325 = .ok (.return_, 1) := by decide +kernel
theorem dX5_firstPeak_0 : decode cX5_firstPeak 0 = .ok (.aload_n 0, 1) := by decide +kernel
theorem dX5_firstPeak_1 : decode cX5_firstPeak 1 = .ok (.getfield 9, 3) := by decide +kernel
theorem dX5_firstPeak_4 : decode cX5_firstPeak 4 = .ok (.aload_n 0, 1) := by decide +kernel
theorem dX5_firstPeak_5 : decode cX5_firstPeak 5 = .ok (.getfield 78, 3) := by decide +kernel
theorem dX5_firstPeak_8 : decode cX5_firstPeak 8 = .ok (.iload_n 1, 1) := by decide +kernel
theorem dX5_firstPeak_9 : decode cX5_firstPeak 9 = .ok (.iastore, 1) := by decide +kernel
theorem dX5_firstPeak_10 : decode cX5_firstPeak 10 = .ok (.aload_n 0, 1) := by decide +kernel
theorem dX5_firstPeak_11 : decode cX5_firstPeak 11 = .ok (.getfield 13, 3) := by decide +kernel
theorem dX5_firstPeak_14 : decode cX5_firstPeak 14 = .ok (.aload_n 0, 1) := by decide +kernel
theorem dX5_firstPeak_15 : decode cX5_firstPeak 15 = .ok (.getfield 78, 3) := by decide +kernel
theorem dX5_firstPeak_18 : decode cX5_firstPeak 18 = .ok (.iload_n 2, 1) := by decide +kernel
theorem dX5_firstPeak_19 : decode cX5_firstPeak 19 = .ok (.iastore, 1) := by decide +kernel
theorem dX5_firstPeak_20 : decode cX5_firstPeak 20 = .ok (.aload_n 0, 1) := by decide +kernel
theorem dX5_firstPeak_21 : decode cX5_firstPeak 21 = .ok (.dup, 1) := by decide +kernel
theorem dX5_firstPeak_22 : decode cX5_firstPeak 22 = .ok (.getfield 78, 3) := by decide +kernel
theorem dX5_firstPeak_25 : decode cX5_firstPeak 25 = .ok (.iconst 1, 1) := by decide +kernel
theorem dX5_firstPeak_26 : decode cX5_firstPeak 26 = .ok (.iadd, 1) := by decide +kernel
theorem dX5_firstPeak_27 : decode cX5_firstPeak 27 = .ok (.putfield 78, 3) := by decide +kernel
theorem dX5_firstPeak_30 : decode cX5_firstPeak 30 = .ok (.return_, 1) := by decide +kernel
theorem dX5_isPeak_0 : decode cX5_isPeak 0 = .ok (.iload_n 1, 1) := by decide +kernel
theorem dX5_isPeak_1 : decode cX5_isPeak 1 = .ok (.iconst 0, 1) := by decide +kernel
theorem dX5_isPeak_2 : decode cX5_isPeak 2 = .ok (.aload_n 0, 1) := by decide +kernel
theorem dX5_isPeak_3 : decode cX5_isPeak 3 = .ok (.getfield 78, 3) := by decide +kernel
theorem dX5_isPeak_6 : decode cX5_isPeak 6 = .ok (.iconst 1, 1) := by decide +kernel
theorem dX5_isPeak_7 : decode cX5_isPeak 7 = .ok (.isub, 1) := by decide +kernel
theorem dX5_isPeak_8 : decode cX5_isPeak 8 = .ok (.invokestatic 81, 3) := by decide +kernel
theorem dX5_isPeak_11 : decode cX5_isPeak 11 = .ok (.ireturn, 1) := by decide +kernel
theorem dX5_isTrimming_0 : decode cX5_isTrimming 0 = .ok (.iload_n 0, 1) := by decide +kernel
theorem dX5_isTrimming_1 : decode cX5_isTrimming 1 = .ok (.iconst 0, 1) := by decide +kernel
theorem dX5_isTrimming_2 : decode cX5_isTrimming 2 = .ok (.iconst 4, 1) := by decide +kernel
theorem dX5_isTrimming_3 : decode cX5_isTrimming 3 = .ok (.invokestatic 81, 3) := by decide +kernel
theorem dX5_isTrimming_6 : decode cX5_isTrimming 6 = .ok (.ireturn, 1) := by decide +kernel
theorem dX5_looks_0 : decode cX5_looks 0 = .ok (.iconst 0, 1) := by decide +kernel
theorem dX5_looks_1 : decode cX5_looks 1 = .ok (.istore_n 2, 1) := by decide +kernel
theorem dX5_looks_2 : decode cX5_looks 2 = .ok (.iconst 0, 1) := by decide +kernel
theorem dX5_looks_3 : decode cX5_looks 3 = .ok (.istore_n 3, 1) := by decide +kernel
theorem dX5_looks_4 : decode cX5_looks 4 = .ok (.iload_n 3, 1) := by decide +kernel
theorem dX5_looks_5 : decode cX5_looks 5 = .ok (.iconst 5, 1) := by decide +kernel
theorem dX5_looks_6 : decode cX5_looks 6 = .ok (.if_icmp .ge 32, 3) := by decide +kernel
theorem dX5_looks_9 : decode cX5_looks 9 = .ok (.iload_n 2, 1) := by decide +kernel
theorem dX5_looks_10 : decode cX5_looks 10 = .ok (.aload_n 0, 1) := by decide +kernel
theorem dX5_looks_11 : decode cX5_looks 11 = .ok (.getfield 19, 3) := by decide +kernel
theorem dX5_looks_14 : decode cX5_looks 14 = .ok (.iconst 5, 1) := by decide +kernel
theorem dX5_looks_15 : decode cX5_looks 15 = .ok (.iload_n 1, 1) := by decide +kernel
theorem dX5_looks_16 : decode cX5_looks 16 = .ok (.imul, 1) := by decide +kernel
theorem dX5_looks_17 : decode cX5_looks 17 = .ok (.iload_n 3, 1) := by decide +kernel
theorem dX5_looks_18 : decode cX5_looks 18 = .ok (.iadd, 1) := by decide +kernel
theorem dX5_looks_19 : decode cX5_looks 19 = .ok (.iaload, 1) := by decide +kernel
theorem dX5_looks_20 : decode cX5_looks 20 = .ok (.ifCond .le 9, 3) := by decide +kernel
theorem dX5_looks_23 : decode cX5_looks 23 = .ok (.iconst 1, 1) := by decide +kernel
theorem dX5_looks_24 : decode cX5_looks 24 = .ok (.iload_n 3, 1) := by decide +kernel
theorem dX5_looks_25 : decode cX5_looks 25 = .ok (.ishl, 1) := by decide +kernel
theorem dX5_looks_26 : decode cX5_looks 26 = .ok (.goto 4, 3) := by decide +kernel
theorem dX5_looks_29 : decode cX5_looks 29 = .ok (.iconst 0, 1) := by decide +kernel
theorem dX5_looks_30 : decode cX5_looks 30 = .ok (.ior, 1) := by decide +kernel
theorem dX5_looks_31 : decode cX5_looks 31 = .ok (.istore_n 2, 1) := by decide +kernel
theorem dX5_looks_32 : decode cX5_looks 32 = .ok (.iinc 3 1, 3) := by decide +kernel
theorem dX5_looks_35 : decode cX5_looks 35 = .ok (.goto (-31), 3) := by decide +kernel
theorem dX5_looks_38 : decode cX5_looks 38 = .ok (.iload_n 2, 1) := by decide +kernel
theorem dX5_looks_39 : decode cX5_looks 39 = .ok (.ireturn, 1) := by decide +kernel
theorem dX5_setGuides_0 : decode cX5_setGuides 0 = .ok (.iconst 0, 1) := by decide +kernel
theorem dX5_setGuides_1 : decode cX5_setGuides 1 = .ok (.istore_n 1, 1) := by decide +kernel
theorem dX5_setGuides_2 : decode cX5_setGuides 2 = .ok (.iload_n 1, 1) := by decide +kernel
theorem dX5_setGuides_3 : decode cX5_setGuides 3 = .ok (.aload_n 0, 1) := by decide +kernel
theorem dX5_setGuides_4 : decode cX5_setGuides 4 = .ok (.getfield 78, 3) := by decide +kernel
theorem dX5_setGuides_7 : decode cX5_setGuides 7 = .ok (.if_icmp .ge 20, 3) := by decide +kernel
theorem dX5_setGuides_10 : decode cX5_setGuides 10 = .ok (.aload_n 0, 1) := by decide +kernel
theorem dX5_setGuides_11 : decode cX5_setGuides 11 = .ok (.getfield 25, 3) := by decide +kernel
theorem dX5_setGuides_14 : decode cX5_setGuides 14 = .ok (.iload_n 1, 1) := by decide +kernel
theorem dX5_setGuides_15 : decode cX5_setGuides 15 = .ok (.aload_n 0, 1) := by decide +kernel
theorem dX5_setGuides_16 : decode cX5_setGuides 16 = .ok (.iload_n 1, 1) := by decide +kernel
theorem dX5_setGuides_17 : decode cX5_setGuides 17 = .ok (.invokevirtual 85, 3) := by decide +kernel
theorem dX5_setGuides_20 : decode cX5_setGuides 20 = .ok (.iastore, 1) := by decide +kernel
theorem dX5_setGuides_21 : decode cX5_setGuides 21 = .ok (.iinc 1 1, 3) := by decide +kernel
theorem dX5_setGuides_24 : decode cX5_setGuides 24 = .ok (.goto (-22), 3) := by decide +kernel
theorem dX5_setGuides_27 : decode cX5_setGuides 27 = .ok (.return_, 1) := by decide +kernel
theorem dX5_write_0 : decode cX5_write 0 = .ok (.iload_n 1, 1) := by decide +kernel
theorem dX5_write_1 : decode cX5_write 1 = .ok (.bipush 32, 2) := by decide +kernel
theorem dX5_write_3 : decode cX5_write 3 = .ok (.bipush 126, 2) := by decide +kernel
theorem dX5_write_5 : decode cX5_write 5 = .ok (.invokestatic 81, 3) := by decide +kernel
theorem dX5_write_8 : decode cX5_write 8 = .ok (.ifCond .ne 5, 3) := by decide +kernel
theorem dX5_write_11 : decode cX5_write 11 = .ok (.iconst (-1), 1) := by decide +kernel
theorem dX5_write_12 : decode cX5_write 12 = .ok (.ireturn, 1) := by decide +kernel
theorem dX5_write_13 : decode cX5_write 13 = .ok (.aload_n 0, 1) := by decide +kernel
theorem dX5_write_14 : decode cX5_write 14 = .ok (.getfield 89, 3) := by decide +kernel
theorem dX5_write_17 : decode cX5_write 17 = .ok (.sipush 200, 3) := by decide +kernel
theorem dX5_write_20 : decode cX5_write 20 = .ok (.if_icmp .ne 6, 3) := by decide +kernel
theorem dX5_write_23 : decode cX5_write 23 = .ok (.bipush (-3), 2) := by decide +kernel
theorem dX5_write_25 : decode cX5_write 25 = .ok (.ireturn, 1) := by decide +kernel
theorem dX5_write_26 : decode cX5_write 26 = .ok (.aload_n 0, 1) := by decide +kernel
theorem dX5_write_27 : decode cX5_write 27 = .ok (.getfield 34, 3) := by decide +kernel
theorem dX5_write_30 : decode cX5_write 30 = .ok (.aload_n 0, 1) := by decide +kernel
theorem dX5_write_31 : decode cX5_write 31 = .ok (.getfield 89, 3) := by decide +kernel
theorem dX5_write_34 : decode cX5_write 34 = .ok (.iload_n 1, 1) := by decide +kernel
theorem dX5_write_35 : decode cX5_write 35 = .ok (.iastore, 1) := by decide +kernel
theorem dX5_write_36 : decode cX5_write 36 = .ok (.aload_n 0, 1) := by decide +kernel
theorem dX5_write_37 : decode cX5_write 37 = .ok (.dup, 1) := by decide +kernel
theorem dX5_write_38 : decode cX5_write 38 = .ok (.getfield 89, 3) := by decide +kernel
theorem dX5_write_41 : decode cX5_write 41 = .ok (.iconst 1, 1) := by decide +kernel
theorem dX5_write_42 : decode cX5_write 42 = .ok (.iadd, 1) := by decide +kernel
theorem dX5_write_43 : decode cX5_write 43 = .ok (.putfield 89, 3) := by decide +kernel
theorem dX5_write_46 : decode cX5_write 46 = .ok (.aload_n 0, 1) := by decide +kernel
theorem dX5_write_47 : decode cX5_write 47 = .ok (.getfield 89, 3) := by decide +kernel
theorem dX5_write_50 : decode cX5_write 50 = .ok (.ireturn, 1) := by decide +kernel
theorem dX5_wipe_0 : decode cX5_wipe 0 = .ok (.aload_n 0, 1) := by decide +kernel
theorem dX5_wipe_1 : decode cX5_wipe 1 = .ok (.getfield 89, 3) := by decide +kernel
theorem dX5_wipe_4 : decode cX5_wipe 4 = .ok (.istore_n 1, 1) := by decide +kernel
theorem dX5_wipe_5 : decode cX5_wipe 5 = .ok (.aload_n 0, 1) := by decide +kernel
theorem dX5_wipe_6 : decode cX5_wipe 6 = .ok (.iconst 0, 1) := by decide +kernel
theorem dX5_wipe_7 : decode cX5_wipe 7 = .ok (.putfield 89, 3) := by decide +kernel
theorem dX5_wipe_10 : decode cX5_wipe 10 = .ok (.iload_n 1, 1) := by decide +kernel
theorem dX5_wipe_11 : decode cX5_wipe 11 = .ok (.ireturn, 1) := by decide +kernel
theorem dX5_here_0 : decode cX5_here 0 = .ok (.aload_n 0, 1) := by decide +kernel
theorem dX5_here_1 : decode cX5_here 1 = .ok (.getfield 92, 3) := by decide +kernel
theorem dX5_here_4 : decode cX5_here 4 = .ok (.aload_n 0, 1) := by decide +kernel
theorem dX5_here_5 : decode cX5_here 5 = .ok (.getfield 89, 3) := by decide +kernel
theorem dX5_here_8 : decode cX5_here 8 = .ok (.if_icmp .ge 15, 3) := by decide +kernel
theorem dX5_here_11 : decode cX5_here 11 = .ok (.aload_n 0, 1) := by decide +kernel
theorem dX5_here_12 : decode cX5_here 12 = .ok (.getfield 34, 3) := by decide +kernel
theorem dX5_here_15 : decode cX5_here 15 = .ok (.aload_n 0, 1) := by decide +kernel
theorem dX5_here_16 : decode cX5_here 16 = .ok (.getfield 92, 3) := by decide +kernel
theorem dX5_here_19 : decode cX5_here 19 = .ok (.iaload, 1) := by decide +kernel
theorem dX5_here_20 : decode cX5_here 20 = .ok (.goto 4, 3) := by decide +kernel
theorem dX5_here_23 : decode cX5_here 23 = .ok (.iconst 0, 1) := by decide +kernel
theorem dX5_here_24 : decode cX5_here 24 = .ok (.ireturn, 1) := by decide +kernel
theorem dX5_isFigure_0 : decode cX5_isFigure 0 = .ok (.aload_n 0, 1) := by decide +kernel
theorem dX5_isFigure_1 : decode cX5_isFigure 1 = .ok (.invokevirtual 95, 3) := by decide +kernel
theorem dX5_isFigure_4 : decode cX5_isFigure 4 = .ok (.bipush 48, 2) := by decide +kernel
theorem dX5_isFigure_6 : decode cX5_isFigure 6 = .ok (.bipush 57, 2) := by decide +kernel
theorem dX5_isFigure_8 : decode cX5_isFigure 8 = .ok (.invokestatic 81, 3) := by decide +kernel
theorem dX5_isFigure_11 : decode cX5_isFigure 11 = .ok (.ireturn, 1) := by decide +kernel
theorem dX5_number_0 : decode cX5_number 0 = .ok (.aload_n 0, 1) := by decide +kernel
theorem dX5_number_1 : decode cX5_number 1 = .ok (.invokevirtual 99, 3) := by decide +kernel
theorem dX5_number_4 : decode cX5_number 4 = .ok (.ifCond .ne 5, 3) := by decide +kernel
theorem dX5_number_7 : decode cX5_number 7 = .ok (.iconst 0, 1) := by decide +kernel
theorem dX5_number_8 : decode cX5_number 8 = .ok (.ireturn, 1) := by decide +kernel
theorem dX5_number_9 : decode cX5_number 9 = .ok (.aload_n 0, 1) := by decide +kernel
theorem dX5_number_10 : decode cX5_number 10 = .ok (.invokevirtual 95, 3) := by decide +kernel
theorem dX5_number_13 : decode cX5_number 13 = .ok (.bipush 48, 2) := by decide +kernel
theorem dX5_number_15 : decode cX5_number 15 = .ok (.isub, 1) := by decide +kernel
theorem dX5_number_16 : decode cX5_number 16 = .ok (.istore 4, 2) := by decide +kernel
theorem dX5_number_18 : decode cX5_number 18 = .ok (.aload_n 0, 1) := by decide +kernel
theorem dX5_number_19 : decode cX5_number 19 = .ok (.dup, 1) := by decide +kernel
theorem dX5_number_20 : decode cX5_number 20 = .ok (.getfield 92, 3) := by decide +kernel
theorem dX5_number_23 : decode cX5_number 23 = .ok (.iconst 1, 1) := by decide +kernel
theorem dX5_number_24 : decode cX5_number 24 = .ok (.iadd, 1) := by decide +kernel
theorem dX5_number_25 : decode cX5_number 25 = .ok (.putfield 92, 3) := by decide +kernel
theorem dX5_number_28 : decode cX5_number 28 = .ok (.aload_n 0, 1) := by decide +kernel
theorem dX5_number_29 : decode cX5_number 29 = .ok (.invokevirtual 99, 3) := by decide +kernel
theorem dX5_number_32 : decode cX5_number 32 = .ok (.ifCond .eq 28, 3) := by decide +kernel
theorem dX5_number_35 : decode cX5_number 35 = .ok (.bipush 10, 2) := by decide +kernel
theorem dX5_number_37 : decode cX5_number 37 = .ok (.iload 4, 2) := by decide +kernel
theorem dX5_number_39 : decode cX5_number 39 = .ok (.imul, 1) := by decide +kernel
theorem dX5_number_40 : decode cX5_number 40 = .ok (.aload_n 0, 1) := by decide +kernel
theorem dX5_number_41 : decode cX5_number 41 = .ok (.invokevirtual 95, 3) := by decide +kernel
theorem dX5_number_44 : decode cX5_number 44 = .ok (.iadd, 1) := by decide +kernel
theorem dX5_number_45 : decode cX5_number 45 = .ok (.bipush 48, 2) := by decide +kernel
theorem dX5_number_47 : decode cX5_number 47 = .ok (.isub, 1) := by decide +kernel
theorem dX5_number_48 : decode cX5_number 48 = .ok (.istore 4, 2) := by decide +kernel
theorem dX5_number_50 : decode cX5_number 50 = .ok (.aload_n 0, 1) := by decide +kernel
theorem dX5_number_51 : decode cX5_number 51 = .ok (.dup, 1) := by decide +kernel
theorem dX5_number_52 : decode cX5_number 52 = .ok (.getfield 92, 3) := by decide +kernel
theorem dX5_number_55 : decode cX5_number 55 = .ok (.iconst 1, 1) := by decide +kernel
theorem dX5_number_56 : decode cX5_number 56 = .ok (.iadd, 1) := by decide +kernel
theorem dX5_number_57 : decode cX5_number 57 = .ok (.putfield 92, 3) := by decide +kernel
theorem dX5_number_60 : decode cX5_number 60 = .ok (.aload_n 0, 1) := by decide +kernel
theorem dX5_number_61 : decode cX5_number 61 = .ok (.iload 4, 2) := by decide +kernel
theorem dX5_number_63 : decode cX5_number 63 = .ok (.putfield 103, 3) := by decide +kernel
theorem dX5_number_66 : decode cX5_number 66 = .ok (.aload_n 0, 1) := by decide +kernel
theorem dX5_number_67 : decode cX5_number 67 = .ok (.invokevirtual 95, 3) := by decide +kernel
theorem dX5_number_70 : decode cX5_number 70 = .ok (.iload_n 3, 1) := by decide +kernel
theorem dX5_number_71 : decode cX5_number 71 = .ok (.if_icmp .ne 13, 3) := by decide +kernel
theorem dX5_number_74 : decode cX5_number 74 = .ok (.iload 4, 2) := by decide +kernel
theorem dX5_number_76 : decode cX5_number 76 = .ok (.iload_n 1, 1) := by decide +kernel
theorem dX5_number_77 : decode cX5_number 77 = .ok (.iload_n 2, 1) := by decide +kernel
theorem dX5_number_78 : decode cX5_number 78 = .ok (.invokestatic 81, 3) := by decide +kernel
theorem dX5_number_81 : decode cX5_number 81 = .ok (.ifCond .ne 5, 3) := by decide +kernel
theorem dX5_number_84 : decode cX5_number 84 = .ok (.iconst 0, 1) := by decide +kernel
theorem dX5_number_85 : decode cX5_number 85 = .ok (.ireturn, 1) := by decide +kernel
theorem dX5_number_86 : decode cX5_number 86 = .ok (.aload_n 0, 1) := by decide +kernel
theorem dX5_number_87 : decode cX5_number 87 = .ok (.dup, 1) := by decide +kernel
theorem dX5_number_88 : decode cX5_number 88 = .ok (.getfield 92, 3) := by decide +kernel
theorem dX5_number_91 : decode cX5_number 91 = .ok (.iconst 1, 1) := by decide +kernel
theorem dX5_number_92 : decode cX5_number 92 = .ok (.iadd, 1) := by decide +kernel
theorem dX5_number_93 : decode cX5_number 93 = .ok (.putfield 92, 3) := by decide +kernel
theorem dX5_number_96 : decode cX5_number 96 = .ok (.iconst 1, 1) := by decide +kernel
theorem dX5_number_97 : decode cX5_number 97 = .ok (.ireturn, 1) := by decide +kernel
theorem dX5_readsPeak_0 : decode cX5_readsPeak 0 = .ok (.aload_n 0, 1) := by decide +kernel
theorem dX5_readsPeak_1 : decode cX5_readsPeak 1 = .ok (.getfield 106, 3) := by decide +kernel
theorem dX5_readsPeak_4 : decode cX5_readsPeak 4 = .ok (.bipush 6, 2) := by decide +kernel
theorem dX5_readsPeak_6 : decode cX5_readsPeak 6 = .ok (.if_icmp .eq 14, 3) := by decide +kernel
theorem dX5_readsPeak_9 : decode cX5_readsPeak 9 = .ok (.aload_n 0, 1) := by decide +kernel
theorem dX5_readsPeak_10 : decode cX5_readsPeak 10 = .ok (.iconst 0, 1) := by decide +kernel
theorem dX5_readsPeak_11 : decode cX5_readsPeak 11 = .ok (.iconst 3, 1) := by decide +kernel
theorem dX5_readsPeak_12 : decode cX5_readsPeak 12 = .ok (.bipush 44, 2) := by decide +kernel
theorem dX5_readsPeak_14 : decode cX5_readsPeak 14 = .ok (.invokevirtual 109, 3) := by decide +kernel
theorem dX5_readsPeak_17 : decode cX5_readsPeak 17 = .ok (.ifCond .ne 5, 3) := by decide +kernel
theorem dX5_readsPeak_20 : decode cX5_readsPeak 20 = .ok (.iconst 0, 1) := by decide +kernel
theorem dX5_readsPeak_21 : decode cX5_readsPeak 21 = .ok (.ireturn, 1) := by decide +kernel
theorem dX5_readsPeak_22 : decode cX5_readsPeak 22 = .ok (.aload_n 0, 1) := by decide +kernel
theorem dX5_readsPeak_23 : decode cX5_readsPeak 23 = .ok (.getfield 103, 3) := by decide +kernel
theorem dX5_readsPeak_26 : decode cX5_readsPeak 26 = .ok (.istore_n 1, 1) := by decide +kernel
theorem dX5_readsPeak_27 : decode cX5_readsPeak 27 = .ok (.aload_n 0, 1) := by decide +kernel
theorem dX5_readsPeak_28 : decode cX5_readsPeak 28 = .ok (.iconst 1, 1) := by decide +kernel
theorem dX5_readsPeak_29 : decode cX5_readsPeak 29 = .ok (.bipush 20, 2) := by decide +kernel
theorem dX5_readsPeak_31 : decode cX5_readsPeak 31 = .ok (.bipush 59, 2) := by decide +kernel
theorem dX5_readsPeak_33 : decode cX5_readsPeak 33 = .ok (.invokevirtual 109, 3) := by decide +kernel
theorem dX5_readsPeak_36 : decode cX5_readsPeak 36 = .ok (.ifCond .ne 5, 3) := by decide +kernel
theorem dX5_readsPeak_39 : decode cX5_readsPeak 39 = .ok (.iconst 0, 1) := by decide +kernel
theorem dX5_readsPeak_40 : decode cX5_readsPeak 40 = .ok (.ireturn, 1) := by decide +kernel
theorem dX5_readsPeak_41 : decode cX5_readsPeak 41 = .ok (.aload_n 0, 1) := by decide +kernel
theorem dX5_readsPeak_42 : decode cX5_readsPeak 42 = .ok (.getfield 37, 3) := by decide +kernel
theorem dX5_readsPeak_45 : decode cX5_readsPeak 45 = .ok (.aload_n 0, 1) := by decide +kernel
theorem dX5_readsPeak_46 : decode cX5_readsPeak 46 = .ok (.getfield 106, 3) := by decide +kernel
theorem dX5_readsPeak_49 : decode cX5_readsPeak 49 = .ok (.iload_n 1, 1) := by decide +kernel
theorem dX5_readsPeak_50 : decode cX5_readsPeak 50 = .ok (.iastore, 1) := by decide +kernel
theorem dX5_readsPeak_51 : decode cX5_readsPeak 51 = .ok (.aload_n 0, 1) := by decide +kernel
theorem dX5_readsPeak_52 : decode cX5_readsPeak 52 = .ok (.getfield 40, 3) := by decide +kernel
theorem dX5_readsPeak_55 : decode cX5_readsPeak 55 = .ok (.aload_n 0, 1) := by decide +kernel
theorem dX5_readsPeak_56 : decode cX5_readsPeak 56 = .ok (.getfield 106, 3) := by decide +kernel
theorem dX5_readsPeak_59 : decode cX5_readsPeak 59 = .ok (.aload_n 0, 1) := by decide +kernel
theorem dX5_readsPeak_60 : decode cX5_readsPeak 60 = .ok (.getfield 103, 3) := by decide +kernel
theorem dX5_readsPeak_63 : decode cX5_readsPeak 63 = .ok (.iastore, 1) := by decide +kernel
theorem dX5_readsPeak_64 : decode cX5_readsPeak 64 = .ok (.aload_n 0, 1) := by decide +kernel
theorem dX5_readsPeak_65 : decode cX5_readsPeak 65 = .ok (.dup, 1) := by decide +kernel
theorem dX5_readsPeak_66 : decode cX5_readsPeak 66 = .ok (.getfield 106, 3) := by decide +kernel
theorem dX5_readsPeak_69 : decode cX5_readsPeak 69 = .ok (.iconst 1, 1) := by decide +kernel
theorem dX5_readsPeak_70 : decode cX5_readsPeak 70 = .ok (.iadd, 1) := by decide +kernel
theorem dX5_readsPeak_71 : decode cX5_readsPeak 71 = .ok (.putfield 106, 3) := by decide +kernel
theorem dX5_readsPeak_74 : decode cX5_readsPeak 74 = .ok (.iconst 1, 1) := by decide +kernel
theorem dX5_readsPeak_75 : decode cX5_readsPeak 75 = .ok (.ireturn, 1) := by decide +kernel
theorem dX5_readsStore_0 : decode cX5_readsStore 0 = .ok (.aload_n 0, 1) := by decide +kernel
theorem dX5_readsStore_1 : decode cX5_readsStore 1 = .ok (.iconst 0, 1) := by decide +kernel
theorem dX5_readsStore_2 : decode cX5_readsStore 2 = .ok (.iconst 4, 1) := by decide +kernel
theorem dX5_readsStore_3 : decode cX5_readsStore 3 = .ok (.bipush 44, 2) := by decide +kernel
theorem dX5_readsStore_5 : decode cX5_readsStore 5 = .ok (.invokevirtual 109, 3) := by decide +kernel
theorem dX5_readsStore_8 : decode cX5_readsStore 8 = .ok (.ifCond .ne 5, 3) := by decide +kernel
theorem dX5_readsStore_11 : decode cX5_readsStore 11 = .ok (.iconst 0, 1) := by decide +kernel
theorem dX5_readsStore_12 : decode cX5_readsStore 12 = .ok (.ireturn, 1) := by decide +kernel
theorem dX5_readsStore_13 : decode cX5_readsStore 13 = .ok (.aload_n 0, 1) := by decide +kernel
theorem dX5_readsStore_14 : decode cX5_readsStore 14 = .ok (.getfield 103, 3) := by decide +kernel
theorem dX5_readsStore_17 : decode cX5_readsStore 17 = .ok (.istore_n 1, 1) := by decide +kernel
theorem dX5_readsStore_18 : decode cX5_readsStore 18 = .ok (.aload_n 0, 1) := by decide +kernel
theorem dX5_readsStore_19 : decode cX5_readsStore 19 = .ok (.iconst 0, 1) := by decide +kernel
theorem dX5_readsStore_20 : decode cX5_readsStore 20 = .ok (.bipush 9, 2) := by decide +kernel
theorem dX5_readsStore_22 : decode cX5_readsStore 22 = .ok (.bipush 59, 2) := by decide +kernel
theorem dX5_readsStore_24 : decode cX5_readsStore 24 = .ok (.invokevirtual 109, 3) := by decide +kernel
theorem dX5_readsStore_27 : decode cX5_readsStore 27 = .ok (.ifCond .ne 5, 3) := by decide +kernel
theorem dX5_readsStore_30 : decode cX5_readsStore 30 = .ok (.iconst 0, 1) := by decide +kernel
theorem dX5_readsStore_31 : decode cX5_readsStore 31 = .ok (.ireturn, 1) := by decide +kernel
theorem dX5_readsStore_32 : decode cX5_readsStore 32 = .ok (.aload_n 0, 1) := by decide +kernel
theorem dX5_readsStore_33 : decode cX5_readsStore 33 = .ok (.getfield 46, 3) := by decide +kernel
theorem dX5_readsStore_36 : decode cX5_readsStore 36 = .ok (.iload_n 1, 1) := by decide +kernel
theorem dX5_readsStore_37 : decode cX5_readsStore 37 = .ok (.aload_n 0, 1) := by decide +kernel
theorem dX5_readsStore_38 : decode cX5_readsStore 38 = .ok (.getfield 103, 3) := by decide +kernel
theorem dX5_readsStore_41 : decode cX5_readsStore 41 = .ok (.iastore, 1) := by decide +kernel
theorem dX5_readsStore_42 : decode cX5_readsStore 42 = .ok (.iconst 1, 1) := by decide +kernel
theorem dX5_readsStore_43 : decode cX5_readsStore 43 = .ok (.ireturn, 1) := by decide +kernel
theorem dX5_readsOn_0 : decode cX5_readsOn 0 = .ok (.aload_n 0, 1) := by decide +kernel
theorem dX5_readsOn_1 : decode cX5_readsOn 1 = .ok (.iconst 0, 1) := by decide +kernel
theorem dX5_readsOn_2 : decode cX5_readsOn 2 = .ok (.aload_n 0, 1) := by decide +kernel
theorem dX5_readsOn_3 : decode cX5_readsOn 3 = .ok (.getfield 106, 3) := by decide +kernel
theorem dX5_readsOn_6 : decode cX5_readsOn 6 = .ok (.iconst 1, 1) := by decide +kernel
theorem dX5_readsOn_7 : decode cX5_readsOn 7 = .ok (.isub, 1) := by decide +kernel
theorem dX5_readsOn_8 : decode cX5_readsOn 8 = .ok (.bipush 44, 2) := by decide +kernel
theorem dX5_readsOn_10 : decode cX5_readsOn 10 = .ok (.invokevirtual 109, 3) := by decide +kernel
theorem dX5_readsOn_13 : decode cX5_readsOn 13 = .ok (.ifCond .ne 5, 3) := by decide +kernel
theorem dX5_readsOn_16 : decode cX5_readsOn 16 = .ok (.iconst 0, 1) := by decide +kernel
theorem dX5_readsOn_17 : decode cX5_readsOn 17 = .ok (.ireturn, 1) := by decide +kernel
theorem dX5_readsOn_18 : decode cX5_readsOn 18 = .ok (.aload_n 0, 1) := by decide +kernel
theorem dX5_readsOn_19 : decode cX5_readsOn 19 = .ok (.getfield 103, 3) := by decide +kernel
theorem dX5_readsOn_22 : decode cX5_readsOn 22 = .ok (.istore_n 1, 1) := by decide +kernel
theorem dX5_readsOn_23 : decode cX5_readsOn 23 = .ok (.aload_n 0, 1) := by decide +kernel
theorem dX5_readsOn_24 : decode cX5_readsOn 24 = .ok (.iconst 0, 1) := by decide +kernel
theorem dX5_readsOn_25 : decode cX5_readsOn 25 = .ok (.iconst 4, 1) := by decide +kernel
theorem dX5_readsOn_26 : decode cX5_readsOn 26 = .ok (.bipush 44, 2) := by decide +kernel
theorem dX5_readsOn_28 : decode cX5_readsOn 28 = .ok (.invokevirtual 109, 3) := by decide +kernel
theorem dX5_readsOn_31 : decode cX5_readsOn 31 = .ok (.ifCond .ne 5, 3) := by decide +kernel
theorem dX5_readsOn_34 : decode cX5_readsOn 34 = .ok (.iconst 0, 1) := by decide +kernel
theorem dX5_readsOn_35 : decode cX5_readsOn 35 = .ok (.ireturn, 1) := by decide +kernel
theorem dX5_readsOn_36 : decode cX5_readsOn 36 = .ok (.aload_n 0, 1) := by decide +kernel
theorem dX5_readsOn_37 : decode cX5_readsOn 37 = .ok (.getfield 103, 3) := by decide +kernel
theorem dX5_readsOn_40 : decode cX5_readsOn 40 = .ok (.istore_n 2, 1) := by decide +kernel
theorem dX5_readsOn_41 : decode cX5_readsOn 41 = .ok (.aload_n 0, 1) := by decide +kernel
theorem dX5_readsOn_42 : decode cX5_readsOn 42 = .ok (.iconst 1, 1) := by decide +kernel
theorem dX5_readsOn_43 : decode cX5_readsOn 43 = .ok (.bipush 20, 2) := by decide +kernel
theorem dX5_readsOn_45 : decode cX5_readsOn 45 = .ok (.bipush 59, 2) := by decide +kernel
theorem dX5_readsOn_47 : decode cX5_readsOn 47 = .ok (.invokevirtual 109, 3) := by decide +kernel
theorem dX5_readsOn_50 : decode cX5_readsOn 50 = .ok (.ifCond .ne 5, 3) := by decide +kernel
theorem dX5_readsOn_53 : decode cX5_readsOn 53 = .ok (.iconst 0, 1) := by decide +kernel
theorem dX5_readsOn_54 : decode cX5_readsOn 54 = .ok (.ireturn, 1) := by decide +kernel
theorem dX5_readsOn_55 : decode cX5_readsOn 55 = .ok (.aload_n 0, 1) := by decide +kernel
theorem dX5_readsOn_56 : decode cX5_readsOn 56 = .ok (.getfield 43, 3) := by decide +kernel
theorem dX5_readsOn_59 : decode cX5_readsOn 59 = .ok (.iconst 5, 1) := by decide +kernel
theorem dX5_readsOn_60 : decode cX5_readsOn 60 = .ok (.iload_n 1, 1) := by decide +kernel
theorem dX5_readsOn_61 : decode cX5_readsOn 61 = .ok (.imul, 1) := by decide +kernel
theorem dX5_readsOn_62 : decode cX5_readsOn 62 = .ok (.iload_n 2, 1) := by decide +kernel
theorem dX5_readsOn_63 : decode cX5_readsOn 63 = .ok (.iadd, 1) := by decide +kernel
theorem dX5_readsOn_64 : decode cX5_readsOn 64 = .ok (.aload_n 0, 1) := by decide +kernel
theorem dX5_readsOn_65 : decode cX5_readsOn 65 = .ok (.getfield 103, 3) := by decide +kernel
theorem dX5_readsOn_68 : decode cX5_readsOn 68 = .ok (.iastore, 1) := by decide +kernel
theorem dX5_readsOn_69 : decode cX5_readsOn 69 = .ok (.iconst 1, 1) := by decide +kernel
theorem dX5_readsOn_70 : decode cX5_readsOn 70 = .ok (.ireturn, 1) := by decide +kernel
theorem dX5_readsWind_0 : decode cX5_readsWind 0 = .ok (.aload_n 0, 1) := by decide +kernel
theorem dX5_readsWind_1 : decode cX5_readsWind 1 = .ok (.getfield 112, 3) := by decide +kernel
theorem dX5_readsWind_4 : decode cX5_readsWind 4 = .ok (.bipush 12, 2) := by decide +kernel
theorem dX5_readsWind_6 : decode cX5_readsWind 6 = .ok (.if_icmp .eq 15, 3) := by decide +kernel
theorem dX5_readsWind_9 : decode cX5_readsWind 9 = .ok (.aload_n 0, 1) := by decide +kernel
theorem dX5_readsWind_10 : decode cX5_readsWind 10 = .ok (.iconst 0, 1) := by decide +kernel
theorem dX5_readsWind_11 : decode cX5_readsWind 11 = .ok (.bipush 20, 2) := by decide +kernel
theorem dX5_readsWind_13 : decode cX5_readsWind 13 = .ok (.bipush 59, 2) := by decide +kernel
theorem dX5_readsWind_15 : decode cX5_readsWind 15 = .ok (.invokevirtual 109, 3) := by decide +kernel
theorem dX5_readsWind_18 : decode cX5_readsWind 18 = .ok (.ifCond .ne 5, 3) := by decide +kernel
theorem dX5_readsWind_21 : decode cX5_readsWind 21 = .ok (.iconst 0, 1) := by decide +kernel
theorem dX5_readsWind_22 : decode cX5_readsWind 22 = .ok (.ireturn, 1) := by decide +kernel
theorem dX5_readsWind_23 : decode cX5_readsWind 23 = .ok (.aload_n 0, 1) := by decide +kernel
theorem dX5_readsWind_24 : decode cX5_readsWind 24 = .ok (.getfield 49, 3) := by decide +kernel
theorem dX5_readsWind_27 : decode cX5_readsWind 27 = .ok (.aload_n 0, 1) := by decide +kernel
theorem dX5_readsWind_28 : decode cX5_readsWind 28 = .ok (.getfield 112, 3) := by decide +kernel
theorem dX5_readsWind_31 : decode cX5_readsWind 31 = .ok (.aload_n 0, 1) := by decide +kernel
theorem dX5_readsWind_32 : decode cX5_readsWind 32 = .ok (.getfield 103, 3) := by decide +kernel
theorem dX5_readsWind_35 : decode cX5_readsWind 35 = .ok (.iastore, 1) := by decide +kernel
theorem dX5_readsWind_36 : decode cX5_readsWind 36 = .ok (.aload_n 0, 1) := by decide +kernel
theorem dX5_readsWind_37 : decode cX5_readsWind 37 = .ok (.dup, 1) := by decide +kernel
theorem dX5_readsWind_38 : decode cX5_readsWind 38 = .ok (.getfield 112, 3) := by decide +kernel
theorem dX5_readsWind_41 : decode cX5_readsWind 41 = .ok (.iconst 1, 1) := by decide +kernel
theorem dX5_readsWind_42 : decode cX5_readsWind 42 = .ok (.iadd, 1) := by decide +kernel
theorem dX5_readsWind_43 : decode cX5_readsWind 43 = .ok (.putfield 112, 3) := by decide +kernel
theorem dX5_readsWind_46 : decode cX5_readsWind 46 = .ok (.iconst 1, 1) := by decide +kernel
theorem dX5_readsWind_47 : decode cX5_readsWind 47 = .ok (.ireturn, 1) := by decide +kernel
theorem dX5_readsItem_0 : decode cX5_readsItem 0 = .ok (.aload_n 0, 1) := by decide +kernel
theorem dX5_readsItem_1 : decode cX5_readsItem 1 = .ok (.invokevirtual 95, 3) := by decide +kernel
theorem dX5_readsItem_4 : decode cX5_readsItem 4 = .ok (.istore_n 1, 1) := by decide +kernel
theorem dX5_readsItem_5 : decode cX5_readsItem 5 = .ok (.aload_n 0, 1) := by decide +kernel
theorem dX5_readsItem_6 : decode cX5_readsItem 6 = .ok (.dup, 1) := by decide +kernel
theorem dX5_readsItem_7 : decode cX5_readsItem 7 = .ok (.getfield 92, 3) := by decide +kernel
theorem dX5_readsItem_10 : decode cX5_readsItem 10 = .ok (.iconst 1, 1) := by decide +kernel
theorem dX5_readsItem_11 : decode cX5_readsItem 11 = .ok (.iadd, 1) := by decide +kernel
theorem dX5_readsItem_12 : decode cX5_readsItem 12 = .ok (.putfield 92, 3) := by decide +kernel
theorem dX5_readsItem_15 : decode cX5_readsItem 15 = .ok (.iload_n 1, 1) := by decide +kernel
theorem dX5_readsItem_16 : decode cX5_readsItem 16 = .ok (.bipush 112, 2) := by decide +kernel
theorem dX5_readsItem_18 : decode cX5_readsItem 18 = .ok (.if_icmp .ne 10, 3) := by decide +kernel
theorem dX5_readsItem_21 : decode cX5_readsItem 21 = .ok (.aload_n 0, 1) := by decide +kernel
theorem dX5_readsItem_22 : decode cX5_readsItem 22 = .ok (.invokevirtual 115, 3) := by decide +kernel
theorem dX5_readsItem_25 : decode cX5_readsItem 25 = .ok (.goto 47, 3) := by decide +kernel
theorem dX5_readsItem_28 : decode cX5_readsItem 28 = .ok (.iload_n 1, 1) := by decide +kernel
theorem dX5_readsItem_29 : decode cX5_readsItem 29 = .ok (.bipush 115, 2) := by decide +kernel
theorem dX5_readsItem_31 : decode cX5_readsItem 31 = .ok (.if_icmp .ne 10, 3) := by decide +kernel
theorem dX5_readsItem_34 : decode cX5_readsItem 34 = .ok (.aload_n 0, 1) := by decide +kernel
theorem dX5_readsItem_35 : decode cX5_readsItem 35 = .ok (.invokevirtual 118, 3) := by decide +kernel
theorem dX5_readsItem_38 : decode cX5_readsItem 38 = .ok (.goto 34, 3) := by decide +kernel
theorem dX5_readsItem_41 : decode cX5_readsItem 41 = .ok (.iload_n 1, 1) := by decide +kernel
theorem dX5_readsItem_42 : decode cX5_readsItem 42 = .ok (.bipush 111, 2) := by decide +kernel
theorem dX5_readsItem_44 : decode cX5_readsItem 44 = .ok (.if_icmp .ne 10, 3) := by decide +kernel
theorem dX5_readsItem_47 : decode cX5_readsItem 47 = .ok (.aload_n 0, 1) := by decide +kernel
theorem dX5_readsItem_48 : decode cX5_readsItem 48 = .ok (.invokevirtual 121, 3) := by decide +kernel
theorem dX5_readsItem_51 : decode cX5_readsItem 51 = .ok (.goto 21, 3) := by decide +kernel
theorem dX5_readsItem_54 : decode cX5_readsItem 54 = .ok (.iload_n 1, 1) := by decide +kernel
theorem dX5_readsItem_55 : decode cX5_readsItem 55 = .ok (.bipush 119, 2) := by decide +kernel
theorem dX5_readsItem_57 : decode cX5_readsItem 57 = .ok (.if_icmp .ne 14, 3) := by decide +kernel
theorem dX5_readsItem_60 : decode cX5_readsItem 60 = .ok (.aload_n 0, 1) := by decide +kernel
theorem dX5_readsItem_61 : decode cX5_readsItem 61 = .ok (.invokevirtual 124, 3) := by decide +kernel
theorem dX5_readsItem_64 : decode cX5_readsItem 64 = .ok (.ifCond .eq 7, 3) := by decide +kernel
theorem dX5_readsItem_67 : decode cX5_readsItem 67 = .ok (.iconst 1, 1) := by decide +kernel
theorem dX5_readsItem_68 : decode cX5_readsItem 68 = .ok (.goto 4, 3) := by decide +kernel
theorem dX5_readsItem_71 : decode cX5_readsItem 71 = .ok (.iconst 0, 1) := by decide +kernel
theorem dX5_readsItem_72 : decode cX5_readsItem 72 = .ok (.ireturn, 1) := by decide +kernel
theorem dX5_fault_0 : decode cX5_fault 0 = .ok (.aload_n 0, 1) := by decide +kernel
theorem dX5_fault_1 : decode cX5_fault 1 = .ok (.iconst 0, 1) := by decide +kernel
theorem dX5_fault_2 : decode cX5_fault 2 = .ok (.putfield 92, 3) := by decide +kernel
theorem dX5_fault_5 : decode cX5_fault 5 = .ok (.aload_n 0, 1) := by decide +kernel
theorem dX5_fault_6 : decode cX5_fault 6 = .ok (.iconst 0, 1) := by decide +kernel
theorem dX5_fault_7 : decode cX5_fault 7 = .ok (.putfield 106, 3) := by decide +kernel
theorem dX5_fault_10 : decode cX5_fault 10 = .ok (.aload_n 0, 1) := by decide +kernel
theorem dX5_fault_11 : decode cX5_fault 11 = .ok (.iconst 0, 1) := by decide +kernel
theorem dX5_fault_12 : decode cX5_fault 12 = .ok (.putfield 112, 3) := by decide +kernel
theorem dX5_fault_15 : decode cX5_fault 15 = .ok (.iconst 0, 1) := by decide +kernel
theorem dX5_fault_16 : decode cX5_fault 16 = .ok (.istore_n 1, 1) := by decide +kernel
theorem dX5_fault_17 : decode cX5_fault 17 = .ok (.iload_n 1, 1) := by decide +kernel
theorem dX5_fault_18 : decode cX5_fault 18 = .ok (.bipush 30, 2) := by decide +kernel
theorem dX5_fault_20 : decode cX5_fault 20 = .ok (.if_icmp .ge 16, 3) := by decide +kernel
theorem dX5_fault_23 : decode cX5_fault 23 = .ok (.aload_n 0, 1) := by decide +kernel
theorem dX5_fault_24 : decode cX5_fault 24 = .ok (.getfield 43, 3) := by decide +kernel
theorem dX5_fault_27 : decode cX5_fault 27 = .ok (.iload_n 1, 1) := by decide +kernel
theorem dX5_fault_28 : decode cX5_fault 28 = .ok (.iconst 0, 1) := by decide +kernel
theorem dX5_fault_29 : decode cX5_fault 29 = .ok (.iastore, 1) := by decide +kernel
theorem dX5_fault_30 : decode cX5_fault 30 = .ok (.iinc 1 1, 3) := by decide +kernel
theorem dX5_fault_33 : decode cX5_fault 33 = .ok (.goto (-16), 3) := by decide +kernel
theorem dX5_fault_36 : decode cX5_fault 36 = .ok (.iconst 0, 1) := by decide +kernel
theorem dX5_fault_37 : decode cX5_fault 37 = .ok (.istore_n 1, 1) := by decide +kernel
theorem dX5_fault_38 : decode cX5_fault 38 = .ok (.iload_n 1, 1) := by decide +kernel
theorem dX5_fault_39 : decode cX5_fault 39 = .ok (.iconst 5, 1) := by decide +kernel
theorem dX5_fault_40 : decode cX5_fault 40 = .ok (.if_icmp .ge 16, 3) := by decide +kernel
theorem dX5_fault_43 : decode cX5_fault 43 = .ok (.aload_n 0, 1) := by decide +kernel
theorem dX5_fault_44 : decode cX5_fault 44 = .ok (.getfield 46, 3) := by decide +kernel
theorem dX5_fault_47 : decode cX5_fault 47 = .ok (.iload_n 1, 1) := by decide +kernel
theorem dX5_fault_48 : decode cX5_fault 48 = .ok (.iconst 2, 1) := by decide +kernel
theorem dX5_fault_49 : decode cX5_fault 49 = .ok (.iastore, 1) := by decide +kernel
theorem dX5_fault_50 : decode cX5_fault 50 = .ok (.iinc 1 1, 3) := by decide +kernel
theorem dX5_fault_53 : decode cX5_fault 53 = .ok (.goto (-15), 3) := by decide +kernel
theorem dX5_fault_56 : decode cX5_fault 56 = .ok (.aload_n 0, 1) := by decide +kernel
theorem dX5_fault_57 : decode cX5_fault 57 = .ok (.getfield 92, 3) := by decide +kernel
theorem dX5_fault_60 : decode cX5_fault 60 = .ok (.aload_n 0, 1) := by decide +kernel
theorem dX5_fault_61 : decode cX5_fault 61 = .ok (.getfield 89, 3) := by decide +kernel
theorem dX5_fault_64 : decode cX5_fault 64 = .ok (.if_icmp .ge 20, 3) := by decide +kernel
theorem dX5_fault_67 : decode cX5_fault 67 = .ok (.aload_n 0, 1) := by decide +kernel
theorem dX5_fault_68 : decode cX5_fault 68 = .ok (.getfield 92, 3) := by decide +kernel
theorem dX5_fault_71 : decode cX5_fault 71 = .ok (.istore_n 1, 1) := by decide +kernel
theorem dX5_fault_72 : decode cX5_fault 72 = .ok (.aload_n 0, 1) := by decide +kernel
theorem dX5_fault_73 : decode cX5_fault 73 = .ok (.invokevirtual 127, 3) := by decide +kernel
theorem dX5_fault_76 : decode cX5_fault 76 = .ok (.ifCond .ne 5, 3) := by decide +kernel
theorem dX5_fault_79 : decode cX5_fault 79 = .ok (.iload_n 1, 1) := by decide +kernel
theorem dX5_fault_80 : decode cX5_fault 80 = .ok (.ireturn, 1) := by decide +kernel
theorem dX5_fault_81 : decode cX5_fault 81 = .ok (.goto (-25), 3) := by decide +kernel
theorem dX5_fault_84 : decode cX5_fault 84 = .ok (.bipush (-4), 2) := by decide +kernel
theorem dX5_fault_86 : decode cX5_fault 86 = .ok (.ireturn, 1) := by decide +kernel
theorem dX5_lay_0 : decode cX5_lay 0 = .ok (.aload_n 0, 1) := by decide +kernel
theorem dX5_lay_1 : decode cX5_lay 1 = .ok (.invokevirtual 130, 3) := by decide +kernel
theorem dX5_lay_4 : decode cX5_lay 4 = .ok (.bipush (-4), 2) := by decide +kernel
theorem dX5_lay_6 : decode cX5_lay 6 = .ok (.if_icmp .ne 10, 3) := by decide +kernel
theorem dX5_lay_9 : decode cX5_lay 9 = .ok (.aload_n 0, 1) := by decide +kernel
theorem dX5_lay_10 : decode cX5_lay 10 = .ok (.getfield 106, 3) := by decide +kernel
theorem dX5_lay_13 : decode cX5_lay 13 = .ok (.ifCond .ne 6, 3) := by decide +kernel
theorem dX5_lay_16 : decode cX5_lay 16 = .ok (.bipush (-2), 2) := by decide +kernel
theorem dX5_lay_18 : decode cX5_lay 18 = .ok (.ireturn, 1) := by decide +kernel
theorem dX5_lay_19 : decode cX5_lay 19 = .ok (.aload_n 0, 1) := by decide +kernel
theorem dX5_lay_20 : decode cX5_lay 20 = .ok (.aload_n 0, 1) := by decide +kernel
theorem dX5_lay_21 : decode cX5_lay 21 = .ok (.getfield 106, 3) := by decide +kernel
theorem dX5_lay_24 : decode cX5_lay 24 = .ok (.putfield 78, 3) := by decide +kernel
theorem dX5_lay_27 : decode cX5_lay 27 = .ok (.aload_n 0, 1) := by decide +kernel
theorem dX5_lay_28 : decode cX5_lay 28 = .ok (.aload_n 0, 1) := by decide +kernel
theorem dX5_lay_29 : decode cX5_lay 29 = .ok (.getfield 112, 3) := by decide +kernel
theorem dX5_lay_32 : decode cX5_lay 32 = .ok (.putfield 71, 3) := by decide +kernel
theorem dX5_lay_35 : decode cX5_lay 35 = .ok (.iconst 0, 1) := by decide +kernel
theorem dX5_lay_36 : decode cX5_lay 36 = .ok (.istore_n 1, 1) := by decide +kernel
theorem dX5_lay_37 : decode cX5_lay 37 = .ok (.iload_n 1, 1) := by decide +kernel
theorem dX5_lay_38 : decode cX5_lay 38 = .ok (.bipush 6, 2) := by decide +kernel
theorem dX5_lay_40 : decode cX5_lay 40 = .ok (.if_icmp .ge 33, 3) := by decide +kernel
theorem dX5_lay_43 : decode cX5_lay 43 = .ok (.aload_n 0, 1) := by decide +kernel
theorem dX5_lay_44 : decode cX5_lay 44 = .ok (.getfield 9, 3) := by decide +kernel
theorem dX5_lay_47 : decode cX5_lay 47 = .ok (.iload_n 1, 1) := by decide +kernel
theorem dX5_lay_48 : decode cX5_lay 48 = .ok (.aload_n 0, 1) := by decide +kernel
theorem dX5_lay_49 : decode cX5_lay 49 = .ok (.getfield 37, 3) := by decide +kernel
theorem dX5_lay_52 : decode cX5_lay 52 = .ok (.iload_n 1, 1) := by decide +kernel
theorem dX5_lay_53 : decode cX5_lay 53 = .ok (.iaload, 1) := by decide +kernel
theorem dX5_lay_54 : decode cX5_lay 54 = .ok (.iastore, 1) := by decide +kernel
theorem dX5_lay_55 : decode cX5_lay 55 = .ok (.aload_n 0, 1) := by decide +kernel
theorem dX5_lay_56 : decode cX5_lay 56 = .ok (.getfield 13, 3) := by decide +kernel
theorem dX5_lay_59 : decode cX5_lay 59 = .ok (.iload_n 1, 1) := by decide +kernel
theorem dX5_lay_60 : decode cX5_lay 60 = .ok (.aload_n 0, 1) := by decide +kernel
theorem dX5_lay_61 : decode cX5_lay 61 = .ok (.getfield 40, 3) := by decide +kernel
theorem dX5_lay_64 : decode cX5_lay 64 = .ok (.iload_n 1, 1) := by decide +kernel
theorem dX5_lay_65 : decode cX5_lay 65 = .ok (.iaload, 1) := by decide +kernel
theorem dX5_lay_66 : decode cX5_lay 66 = .ok (.iastore, 1) := by decide +kernel
theorem dX5_lay_67 : decode cX5_lay 67 = .ok (.iinc 1 1, 3) := by decide +kernel
theorem dX5_lay_70 : decode cX5_lay 70 = .ok (.goto (-33), 3) := by decide +kernel
theorem dX5_lay_73 : decode cX5_lay 73 = .ok (.iconst 0, 1) := by decide +kernel
theorem dX5_lay_74 : decode cX5_lay 74 = .ok (.istore_n 1, 1) := by decide +kernel
theorem dX5_lay_75 : decode cX5_lay 75 = .ok (.iload_n 1, 1) := by decide +kernel
theorem dX5_lay_76 : decode cX5_lay 76 = .ok (.bipush 30, 2) := by decide +kernel
theorem dX5_lay_78 : decode cX5_lay 78 = .ok (.if_icmp .ge 21, 3) := by decide +kernel
theorem dX5_lay_81 : decode cX5_lay 81 = .ok (.aload_n 0, 1) := by decide +kernel
theorem dX5_lay_82 : decode cX5_lay 82 = .ok (.getfield 19, 3) := by decide +kernel
theorem dX5_lay_85 : decode cX5_lay 85 = .ok (.iload_n 1, 1) := by decide +kernel
theorem dX5_lay_86 : decode cX5_lay 86 = .ok (.aload_n 0, 1) := by decide +kernel
theorem dX5_lay_87 : decode cX5_lay 87 = .ok (.getfield 43, 3) := by decide +kernel
theorem dX5_lay_90 : decode cX5_lay 90 = .ok (.iload_n 1, 1) := by decide +kernel
theorem dX5_lay_91 : decode cX5_lay 91 = .ok (.iaload, 1) := by decide +kernel
theorem dX5_lay_92 : decode cX5_lay 92 = .ok (.iastore, 1) := by decide +kernel
theorem dX5_lay_93 : decode cX5_lay 93 = .ok (.iinc 1 1, 3) := by decide +kernel
theorem dX5_lay_96 : decode cX5_lay 96 = .ok (.goto (-21), 3) := by decide +kernel
theorem dX5_lay_99 : decode cX5_lay 99 = .ok (.iconst 0, 1) := by decide +kernel
theorem dX5_lay_100 : decode cX5_lay 100 = .ok (.istore_n 1, 1) := by decide +kernel
theorem dX5_lay_101 : decode cX5_lay 101 = .ok (.iload_n 1, 1) := by decide +kernel
theorem dX5_lay_102 : decode cX5_lay 102 = .ok (.iconst 5, 1) := by decide +kernel
theorem dX5_lay_103 : decode cX5_lay 103 = .ok (.if_icmp .ge 21, 3) := by decide +kernel
theorem dX5_lay_106 : decode cX5_lay 106 = .ok (.aload_n 0, 1) := by decide +kernel
theorem dX5_lay_107 : decode cX5_lay 107 = .ok (.getfield 22, 3) := by decide +kernel
theorem dX5_lay_110 : decode cX5_lay 110 = .ok (.iload_n 1, 1) := by decide +kernel
theorem dX5_lay_111 : decode cX5_lay 111 = .ok (.aload_n 0, 1) := by decide +kernel
theorem dX5_lay_112 : decode cX5_lay 112 = .ok (.getfield 46, 3) := by decide +kernel
theorem dX5_lay_115 : decode cX5_lay 115 = .ok (.iload_n 1, 1) := by decide +kernel
theorem dX5_lay_116 : decode cX5_lay 116 = .ok (.iaload, 1) := by decide +kernel
theorem dX5_lay_117 : decode cX5_lay 117 = .ok (.iastore, 1) := by decide +kernel
theorem dX5_lay_118 : decode cX5_lay 118 = .ok (.iinc 1 1, 3) := by decide +kernel
theorem dX5_lay_121 : decode cX5_lay 121 = .ok (.goto (-20), 3) := by decide +kernel
theorem dX5_lay_124 : decode cX5_lay 124 = .ok (.iconst 0, 1) := by decide +kernel
theorem dX5_lay_125 : decode cX5_lay 125 = .ok (.istore_n 1, 1) := by decide +kernel
theorem dX5_lay_126 : decode cX5_lay 126 = .ok (.iload_n 1, 1) := by decide +kernel
theorem dX5_lay_127 : decode cX5_lay 127 = .ok (.bipush 12, 2) := by decide +kernel
theorem dX5_lay_129 : decode cX5_lay 129 = .ok (.if_icmp .ge 21, 3) := by decide +kernel
theorem dX5_lay_132 : decode cX5_lay 132 = .ok (.aload_n 0, 1) := by decide +kernel
theorem dX5_lay_133 : decode cX5_lay 133 = .ok (.getfield 16, 3) := by decide +kernel
theorem dX5_lay_136 : decode cX5_lay 136 = .ok (.iload_n 1, 1) := by decide +kernel
theorem dX5_lay_137 : decode cX5_lay 137 = .ok (.aload_n 0, 1) := by decide +kernel
theorem dX5_lay_138 : decode cX5_lay 138 = .ok (.getfield 49, 3) := by decide +kernel
theorem dX5_lay_141 : decode cX5_lay 141 = .ok (.iload_n 1, 1) := by decide +kernel
theorem dX5_lay_142 : decode cX5_lay 142 = .ok (.iaload, 1) := by decide +kernel
theorem dX5_lay_143 : decode cX5_lay 143 = .ok (.iastore, 1) := by decide +kernel
theorem dX5_lay_144 : decode cX5_lay 144 = .ok (.iinc 1 1, 3) := by decide +kernel
theorem dX5_lay_147 : decode cX5_lay 147 = .ok (.goto (-21), 3) := by decide +kernel
theorem dX5_lay_150 : decode cX5_lay 150 = .ok (.aload_n 0, 1) := by decide +kernel
theorem dX5_lay_151 : decode cX5_lay 151 = .ok (.invokevirtual 75, 3) := by decide +kernel
theorem dX5_lay_154 : decode cX5_lay 154 = .ok (.aload_n 0, 1) := by decide +kernel
theorem dX5_lay_155 : decode cX5_lay 155 = .ok (.iconst 0, 1) := by decide +kernel
theorem dX5_lay_156 : decode cX5_lay 156 = .ok (.putfield 133, 3) := by decide +kernel
theorem dX5_lay_159 : decode cX5_lay 159 = .ok (.aload_n 0, 1) := by decide +kernel
theorem dX5_lay_160 : decode cX5_lay 160 = .ok (.iconst 0, 1) := by decide +kernel
theorem dX5_lay_161 : decode cX5_lay 161 = .ok (.putfield 136, 3) := by decide +kernel
theorem dX5_lay_164 : decode cX5_lay 164 = .ok (.aload_n 0, 1) := by decide +kernel
theorem dX5_lay_165 : decode cX5_lay 165 = .ok (.iconst 0, 1) := by decide +kernel
theorem dX5_lay_166 : decode cX5_lay 166 = .ok (.putfield 139, 3) := by decide +kernel
theorem dX5_lay_169 : decode cX5_lay 169 = .ok (.aload_n 0, 1) := by decide +kernel
theorem dX5_lay_170 : decode cX5_lay 170 = .ok (.iconst 0, 1) := by decide +kernel
theorem dX5_lay_171 : decode cX5_lay 171 = .ok (.putfield 142, 3) := by decide +kernel
theorem dX5_lay_174 : decode cX5_lay 174 = .ok (.aload_n 0, 1) := by decide +kernel
theorem dX5_lay_175 : decode cX5_lay 175 = .ok (.getfield 78, 3) := by decide +kernel
theorem dX5_lay_178 : decode cX5_lay 178 = .ok (.ireturn, 1) := by decide +kernel
theorem dX5_windOf_0 : decode cX5_windOf 0 = .ok (.aload_n 0, 1) := by decide +kernel
theorem dX5_windOf_1 : decode cX5_windOf 1 = .ok (.getfield 71, 3) := by decide +kernel
theorem dX5_windOf_4 : decode cX5_windOf 4 = .ok (.ifCond .ne 7, 3) := by decide +kernel
theorem dX5_windOf_7 : decode cX5_windOf 7 = .ok (.iconst 3, 1) := by decide +kernel
theorem dX5_windOf_8 : decode cX5_windOf 8 = .ok (.goto 14, 3) := by decide +kernel
theorem dX5_windOf_11 : decode cX5_windOf 11 = .ok (.aload_n 0, 1) := by decide +kernel
theorem dX5_windOf_12 : decode cX5_windOf 12 = .ok (.getfield 16, 3) := by decide +kernel
theorem dX5_windOf_15 : decode cX5_windOf 15 = .ok (.iload_n 1, 1) := by decide +kernel
theorem dX5_windOf_16 : decode cX5_windOf 16 = .ok (.aload_n 0, 1) := by decide +kernel
theorem dX5_windOf_17 : decode cX5_windOf 17 = .ok (.getfield 71, 3) := by decide +kernel
theorem dX5_windOf_20 : decode cX5_windOf 20 = .ok (.irem, 1) := by decide +kernel
theorem dX5_windOf_21 : decode cX5_windOf 21 = .ok (.iaload, 1) := by decide +kernel
theorem dX5_windOf_22 : decode cX5_windOf 22 = .ok (.ireturn, 1) := by decide +kernel
theorem dX5_forceBy_0 : decode cX5_forceBy 0 = .ok (.aload_n 0, 1) := by decide +kernel
theorem dX5_forceBy_1 : decode cX5_forceBy 1 = .ok (.getfield 9, 3) := by decide +kernel
theorem dX5_forceBy_4 : decode cX5_forceBy 4 = .ok (.iload_n 1, 1) := by decide +kernel
theorem dX5_forceBy_5 : decode cX5_forceBy 5 = .ok (.iaload, 1) := by decide +kernel
theorem dX5_forceBy_6 : decode cX5_forceBy 6 = .ok (.iconst 1, 1) := by decide +kernel
theorem dX5_forceBy_7 : decode cX5_forceBy 7 = .ok (.if_icmp .ne 9, 3) := by decide +kernel
theorem dX5_forceBy_10 : decode cX5_forceBy 10 = .ok (.iload_n 2, 1) := by decide +kernel
theorem dX5_forceBy_11 : decode cX5_forceBy 11 = .ok (.iconst 2, 1) := by decide +kernel
theorem dX5_forceBy_12 : decode cX5_forceBy 12 = .ok (.iadd, 1) := by decide +kernel
theorem dX5_forceBy_13 : decode cX5_forceBy 13 = .ok (.goto 24, 3) := by decide +kernel
theorem dX5_forceBy_16 : decode cX5_forceBy 16 = .ok (.aload_n 0, 1) := by decide +kernel
theorem dX5_forceBy_17 : decode cX5_forceBy 17 = .ok (.getfield 9, 3) := by decide +kernel
theorem dX5_forceBy_20 : decode cX5_forceBy 20 = .ok (.iload_n 1, 1) := by decide +kernel
theorem dX5_forceBy_21 : decode cX5_forceBy 21 = .ok (.iaload, 1) := by decide +kernel
theorem dX5_forceBy_22 : decode cX5_forceBy 22 = .ok (.iconst 2, 1) := by decide +kernel
theorem dX5_forceBy_23 : decode cX5_forceBy 23 = .ok (.if_icmp .ne 13, 3) := by decide +kernel
theorem dX5_forceBy_26 : decode cX5_forceBy 26 = .ok (.iconst 0, 1) := by decide +kernel
theorem dX5_forceBy_27 : decode cX5_forceBy 27 = .ok (.iload_n 2, 1) := by decide +kernel
theorem dX5_forceBy_28 : decode cX5_forceBy 28 = .ok (.iconst 2, 1) := by decide +kernel
theorem dX5_forceBy_29 : decode cX5_forceBy 29 = .ok (.isub, 1) := by decide +kernel
theorem dX5_forceBy_30 : decode cX5_forceBy 30 = .ok (.invokestatic 145, 3) := by decide +kernel
theorem dX5_forceBy_33 : decode cX5_forceBy 33 = .ok (.goto 4, 3) := by decide +kernel
theorem dX5_forceBy_36 : decode cX5_forceBy 36 = .ok (.iload_n 2, 1) := by decide +kernel
theorem dX5_forceBy_37 : decode cX5_forceBy 37 = .ok (.ireturn, 1) := by decide +kernel
theorem dX5_light_0 : decode cX5_light 0 = .ok (.bipush 12, 2) := by decide +kernel
theorem dX5_light_2 : decode cX5_light 2 = .ok (.istore_n 2, 1) := by decide +kernel
theorem dX5_light_3 : decode cX5_light 3 = .ok (.iconst 0, 1) := by decide +kernel
theorem dX5_light_4 : decode cX5_light 4 = .ok (.istore_n 3, 1) := by decide +kernel
theorem dX5_light_5 : decode cX5_light 5 = .ok (.iload_n 3, 1) := by decide +kernel
theorem dX5_light_6 : decode cX5_light 6 = .ok (.aload_n 0, 1) := by decide +kernel
theorem dX5_light_7 : decode cX5_light 7 = .ok (.getfield 78, 3) := by decide +kernel
theorem dX5_light_10 : decode cX5_light 10 = .ok (.if_icmp .ge 70, 3) := by decide +kernel
theorem dX5_light_13 : decode cX5_light 13 = .ok (.iload_n 3, 1) := by decide +kernel
theorem dX5_light_14 : decode cX5_light 14 = .ok (.iload_n 1, 1) := by decide +kernel
theorem dX5_light_15 : decode cX5_light 15 = .ok (.iconst 1, 1) := by decide +kernel
theorem dX5_light_16 : decode cX5_light 16 = .ok (.isub, 1) := by decide +kernel
theorem dX5_light_17 : decode cX5_light 17 = .ok (.if_icmp .eq 10, 3) := by decide +kernel
theorem dX5_light_20 : decode cX5_light 20 = .ok (.iload_n 3, 1) := by decide +kernel
theorem dX5_light_21 : decode cX5_light 21 = .ok (.iload_n 1, 1) := by decide +kernel
theorem dX5_light_22 : decode cX5_light 22 = .ok (.iconst 1, 1) := by decide +kernel
theorem dX5_light_23 : decode cX5_light 23 = .ok (.iadd, 1) := by decide +kernel
theorem dX5_light_24 : decode cX5_light 24 = .ok (.if_icmp .ne 7, 3) := by decide +kernel
theorem dX5_light_27 : decode cX5_light 27 = .ok (.iconst 1, 1) := by decide +kernel
theorem dX5_light_28 : decode cX5_light 28 = .ok (.goto 4, 3) := by decide +kernel
theorem dX5_light_31 : decode cX5_light 31 = .ok (.iconst 0, 1) := by decide +kernel
theorem dX5_light_32 : decode cX5_light 32 = .ok (.istore 4, 2) := by decide +kernel
theorem dX5_light_34 : decode cX5_light 34 = .ok (.iload_n 2, 1) := by decide +kernel
theorem dX5_light_35 : decode cX5_light 35 = .ok (.iload 4, 2) := by decide +kernel
theorem dX5_light_37 : decode cX5_light 37 = .ok (.ifCond .eq 34, 3) := by decide +kernel
theorem dX5_light_40 : decode cX5_light 40 = .ok (.aload_n 0, 1) := by decide +kernel
theorem dX5_light_41 : decode cX5_light 41 = .ok (.getfield 13, 3) := by decide +kernel
theorem dX5_light_44 : decode cX5_light 44 = .ok (.iload_n 3, 1) := by decide +kernel
theorem dX5_light_45 : decode cX5_light 45 = .ok (.iaload, 1) := by decide +kernel
theorem dX5_light_46 : decode cX5_light 46 = .ok (.aload_n 0, 1) := by decide +kernel
theorem dX5_light_47 : decode cX5_light 47 = .ok (.getfield 13, 3) := by decide +kernel
theorem dX5_light_50 : decode cX5_light 50 = .ok (.iload_n 1, 1) := by decide +kernel
theorem dX5_light_51 : decode cX5_light 51 = .ok (.iaload, 1) := by decide +kernel
theorem dX5_light_52 : decode cX5_light 52 = .ok (.if_icmp .le 19, 3) := by decide +kernel
theorem dX5_light_55 : decode cX5_light 55 = .ok (.aload_n 0, 1) := by decide +kernel
theorem dX5_light_56 : decode cX5_light 56 = .ok (.iload_n 3, 1) := by decide +kernel
theorem dX5_light_57 : decode cX5_light 57 = .ok (.invokevirtual 85, 3) := by decide +kernel
theorem dX5_light_60 : decode cX5_light 60 = .ok (.iconst 3, 1) := by decide +kernel
theorem dX5_light_61 : decode cX5_light 61 = .ok (.invokestatic 149, 3) := by decide +kernel
theorem dX5_light_64 : decode cX5_light 64 = .ok (.ifCond .eq 7, 3) := by decide +kernel
theorem dX5_light_67 : decode cX5_light 67 = .ok (.iconst 3, 1) := by decide +kernel
theorem dX5_light_68 : decode cX5_light 68 = .ok (.goto 4, 3) := by decide +kernel
theorem dX5_light_71 : decode cX5_light 71 = .ok (.iconst 0, 1) := by decide +kernel
theorem dX5_light_72 : decode cX5_light 72 = .ok (.isub, 1) := by decide +kernel
theorem dX5_light_73 : decode cX5_light 73 = .ok (.istore_n 2, 1) := by decide +kernel
theorem dX5_light_74 : decode cX5_light 74 = .ok (.iinc 3 1, 3) := by decide +kernel
theorem dX5_light_77 : decode cX5_light 77 = .ok (.goto (-72), 3) := by decide +kernel
theorem dX5_light_80 : decode cX5_light 80 = .ok (.iload_n 2, 1) := by decide +kernel
theorem dX5_light_81 : decode cX5_light 81 = .ok (.ireturn, 1) := by decide +kernel
theorem dX5_passesBy_0 : decode cX5_passesBy 0 = .ok (.aload_n 0, 1) := by decide +kernel
theorem dX5_passesBy_1 : decode cX5_passesBy 1 = .ok (.invokevirtual 75, 3) := by decide +kernel
theorem dX5_passesBy_4 : decode cX5_passesBy 4 = .ok (.iconst 0, 1) := by decide +kernel
theorem dX5_passesBy_5 : decode cX5_passesBy 5 = .ok (.istore_n 2, 1) := by decide +kernel
theorem dX5_passesBy_6 : decode cX5_passesBy 6 = .ok (.iload_n 2, 1) := by decide +kernel
theorem dX5_passesBy_7 : decode cX5_passesBy 7 = .ok (.aload_n 0, 1) := by decide +kernel
theorem dX5_passesBy_8 : decode cX5_passesBy 8 = .ok (.getfield 78, 3) := by decide +kernel
theorem dX5_passesBy_11 : decode cX5_passesBy 11 = .ok (.if_icmp .ge 134, 3) := by decide +kernel
theorem dX5_passesBy_14 : decode cX5_passesBy 14 = .ok (.aload_n 0, 1) := by decide +kernel
theorem dX5_passesBy_15 : decode cX5_passesBy 15 = .ok (.iload_n 2, 1) := by decide +kernel
theorem dX5_passesBy_16 : decode cX5_passesBy 16 = .ok (.iload_n 1, 1) := by decide +kernel
theorem dX5_passesBy_17 : decode cX5_passesBy 17 = .ok (.invokevirtual 153, 3) := by decide +kernel
theorem dX5_passesBy_20 : decode cX5_passesBy 20 = .ok (.istore_n 3, 1) := by decide +kernel
theorem dX5_passesBy_21 : decode cX5_passesBy 21 = .ok (.iconst 5, 1) := by decide +kernel
theorem dX5_passesBy_22 : decode cX5_passesBy 22 = .ok (.iload_n 2, 1) := by decide +kernel
theorem dX5_passesBy_23 : decode cX5_passesBy 23 = .ok (.imul, 1) := by decide +kernel
theorem dX5_passesBy_24 : decode cX5_passesBy 24 = .ok (.istore 4, 2) := by decide +kernel
theorem dX5_passesBy_26 : decode cX5_passesBy 26 = .ok (.iload 4, 2) := by decide +kernel
theorem dX5_passesBy_28 : decode cX5_passesBy 28 = .ok (.iconst 5, 1) := by decide +kernel
theorem dX5_passesBy_29 : decode cX5_passesBy 29 = .ok (.iload_n 2, 1) := by decide +kernel
theorem dX5_passesBy_30 : decode cX5_passesBy 30 = .ok (.imul, 1) := by decide +kernel
theorem dX5_passesBy_31 : decode cX5_passesBy 31 = .ok (.iconst 5, 1) := by decide +kernel
theorem dX5_passesBy_32 : decode cX5_passesBy 32 = .ok (.iadd, 1) := by decide +kernel
theorem dX5_passesBy_33 : decode cX5_passesBy 33 = .ok (.if_icmp .ge 44, 3) := by decide +kernel
theorem dX5_passesBy_36 : decode cX5_passesBy 36 = .ok (.aload_n 0, 1) := by decide +kernel
theorem dX5_passesBy_37 : decode cX5_passesBy 37 = .ok (.getfield 19, 3) := by decide +kernel
theorem dX5_passesBy_40 : decode cX5_passesBy 40 = .ok (.iload 4, 2) := by decide +kernel
theorem dX5_passesBy_42 : decode cX5_passesBy 42 = .ok (.aload_n 0, 1) := by decide +kernel
theorem dX5_passesBy_43 : decode cX5_passesBy 43 = .ok (.getfield 19, 3) := by decide +kernel
theorem dX5_passesBy_46 : decode cX5_passesBy 46 = .ok (.iload 4, 2) := by decide +kernel
theorem dX5_passesBy_48 : decode cX5_passesBy 48 = .ok (.iaload, 1) := by decide +kernel
theorem dX5_passesBy_49 : decode cX5_passesBy 49 = .ok (.iload_n 3, 1) := by decide +kernel
theorem dX5_passesBy_50 : decode cX5_passesBy 50 = .ok (.if_icmp .ge 7, 3) := by decide +kernel
theorem dX5_passesBy_53 : decode cX5_passesBy 53 = .ok (.iconst 0, 1) := by decide +kernel
theorem dX5_passesBy_54 : decode cX5_passesBy 54 = .ok (.goto 16, 3) := by decide +kernel
theorem dX5_passesBy_57 : decode cX5_passesBy 57 = .ok (.iconst 0, 1) := by decide +kernel
theorem dX5_passesBy_58 : decode cX5_passesBy 58 = .ok (.aload_n 0, 1) := by decide +kernel
theorem dX5_passesBy_59 : decode cX5_passesBy 59 = .ok (.getfield 19, 3) := by decide +kernel
theorem dX5_passesBy_62 : decode cX5_passesBy 62 = .ok (.iload 4, 2) := by decide +kernel
theorem dX5_passesBy_64 : decode cX5_passesBy 64 = .ok (.iaload, 1) := by decide +kernel
theorem dX5_passesBy_65 : decode cX5_passesBy 65 = .ok (.iconst 1, 1) := by decide +kernel
theorem dX5_passesBy_66 : decode cX5_passesBy 66 = .ok (.isub, 1) := by decide +kernel
theorem dX5_passesBy_67 : decode cX5_passesBy 67 = .ok (.invokestatic 145, 3) := by decide +kernel
theorem dX5_passesBy_70 : decode cX5_passesBy 70 = .ok (.iastore, 1) := by decide +kernel
theorem dX5_passesBy_71 : decode cX5_passesBy 71 = .ok (.iinc 4 1, 3) := by decide +kernel
theorem dX5_passesBy_74 : decode cX5_passesBy 74 = .ok (.goto (-48), 3) := by decide +kernel
theorem dX5_passesBy_77 : decode cX5_passesBy 77 = .ok (.iconst 5, 1) := by decide +kernel
theorem dX5_passesBy_78 : decode cX5_passesBy 78 = .ok (.iload_n 2, 1) := by decide +kernel
theorem dX5_passesBy_79 : decode cX5_passesBy 79 = .ok (.imul, 1) := by decide +kernel
theorem dX5_passesBy_80 : decode cX5_passesBy 80 = .ok (.istore 4, 2) := by decide +kernel
theorem dX5_passesBy_82 : decode cX5_passesBy 82 = .ok (.iload 4, 2) := by decide +kernel
theorem dX5_passesBy_84 : decode cX5_passesBy 84 = .ok (.iconst 5, 1) := by decide +kernel
theorem dX5_passesBy_85 : decode cX5_passesBy 85 = .ok (.iload_n 2, 1) := by decide +kernel
theorem dX5_passesBy_86 : decode cX5_passesBy 86 = .ok (.imul, 1) := by decide +kernel
theorem dX5_passesBy_87 : decode cX5_passesBy 87 = .ok (.iconst 5, 1) := by decide +kernel
theorem dX5_passesBy_88 : decode cX5_passesBy 88 = .ok (.iadd, 1) := by decide +kernel
theorem dX5_passesBy_89 : decode cX5_passesBy 89 = .ok (.if_icmp .ge 19, 3) := by decide +kernel
theorem dX5_passesBy_92 : decode cX5_passesBy 92 = .ok (.aload_n 0, 1) := by decide +kernel
theorem dX5_passesBy_93 : decode cX5_passesBy 93 = .ok (.getfield 19, 3) := by decide +kernel
theorem dX5_passesBy_96 : decode cX5_passesBy 96 = .ok (.iload 4, 2) := by decide +kernel
theorem dX5_passesBy_98 : decode cX5_passesBy 98 = .ok (.iaload, 1) := by decide +kernel
theorem dX5_passesBy_99 : decode cX5_passesBy 99 = .ok (.ifCond .ne 9, 3) := by decide +kernel
theorem dX5_passesBy_102 : decode cX5_passesBy 102 = .ok (.iinc 4 1, 3) := by decide +kernel
theorem dX5_passesBy_105 : decode cX5_passesBy 105 = .ok (.goto (-23), 3) := by decide +kernel
theorem dX5_passesBy_108 : decode cX5_passesBy 108 = .ok (.aload_n 0, 1) := by decide +kernel
theorem dX5_passesBy_109 : decode cX5_passesBy 109 = .ok (.getfield 9, 3) := by decide +kernel
theorem dX5_passesBy_112 : decode cX5_passesBy 112 = .ok (.iload_n 2, 1) := by decide +kernel
theorem dX5_passesBy_113 : decode cX5_passesBy 113 = .ok (.iaload, 1) := by decide +kernel
theorem dX5_passesBy_114 : decode cX5_passesBy 114 = .ok (.iconst 3, 1) := by decide +kernel
theorem dX5_passesBy_115 : decode cX5_passesBy 115 = .ok (.if_icmp .ne 24, 3) := by decide +kernel
theorem dX5_passesBy_118 : decode cX5_passesBy 118 = .ok (.iload 4, 2) := by decide +kernel
theorem dX5_passesBy_120 : decode cX5_passesBy 120 = .ok (.iconst 5, 1) := by decide +kernel
theorem dX5_passesBy_121 : decode cX5_passesBy 121 = .ok (.iload_n 2, 1) := by decide +kernel
theorem dX5_passesBy_122 : decode cX5_passesBy 122 = .ok (.imul, 1) := by decide +kernel
theorem dX5_passesBy_123 : decode cX5_passesBy 123 = .ok (.iconst 5, 1) := by decide +kernel
theorem dX5_passesBy_124 : decode cX5_passesBy 124 = .ok (.iadd, 1) := by decide +kernel
theorem dX5_passesBy_125 : decode cX5_passesBy 125 = .ok (.if_icmp .ge 14, 3) := by decide +kernel
theorem dX5_passesBy_128 : decode cX5_passesBy 128 = .ok (.aload_n 0, 1) := by decide +kernel
theorem dX5_passesBy_129 : decode cX5_passesBy 129 = .ok (.getfield 19, 3) := by decide +kernel
theorem dX5_passesBy_132 : decode cX5_passesBy 132 = .ok (.iload 4, 2) := by decide +kernel
theorem dX5_passesBy_134 : decode cX5_passesBy 134 = .ok (.dup2, 1) := by decide +kernel
theorem dX5_passesBy_135 : decode cX5_passesBy 135 = .ok (.iaload, 1) := by decide +kernel
theorem dX5_passesBy_136 : decode cX5_passesBy 136 = .ok (.iconst 1, 1) := by decide +kernel
theorem dX5_passesBy_137 : decode cX5_passesBy 137 = .ok (.isub, 1) := by decide +kernel
theorem dX5_passesBy_138 : decode cX5_passesBy 138 = .ok (.iastore, 1) := by decide +kernel
theorem dX5_passesBy_139 : decode cX5_passesBy 139 = .ok (.iinc 2 1, 3) := by decide +kernel
theorem dX5_passesBy_142 : decode cX5_passesBy 142 = .ok (.goto (-136), 3) := by decide +kernel
theorem dX5_passesBy_145 : decode cX5_passesBy 145 = .ok (.aload_n 0, 1) := by decide +kernel
theorem dX5_passesBy_146 : decode cX5_passesBy 146 = .ok (.dup, 1) := by decide +kernel
theorem dX5_passesBy_147 : decode cX5_passesBy 147 = .ok (.getfield 133, 3) := by decide +kernel
theorem dX5_passesBy_150 : decode cX5_passesBy 150 = .ok (.iconst 1, 1) := by decide +kernel
theorem dX5_passesBy_151 : decode cX5_passesBy 151 = .ok (.iadd, 1) := by decide +kernel
theorem dX5_passesBy_152 : decode cX5_passesBy 152 = .ok (.putfield 133, 3) := by decide +kernel
theorem dX5_passesBy_155 : decode cX5_passesBy 155 = .ok (.return_, 1) := by decide +kernel
theorem dX5_goesOn_0 : decode cX5_goesOn 0 = .ok (.iconst 0, 1) := by decide +kernel
theorem dX5_goesOn_1 : decode cX5_goesOn 1 = .ok (.istore_n 2, 1) := by decide +kernel
theorem dX5_goesOn_2 : decode cX5_goesOn 2 = .ok (.iload_n 2, 1) := by decide +kernel
theorem dX5_goesOn_3 : decode cX5_goesOn 3 = .ok (.iload_n 1, 1) := by decide +kernel
theorem dX5_goesOn_4 : decode cX5_goesOn 4 = .ok (.if_icmp .ge 21, 3) := by decide +kernel
theorem dX5_goesOn_7 : decode cX5_goesOn 7 = .ok (.aload_n 0, 1) := by decide +kernel
theorem dX5_goesOn_8 : decode cX5_goesOn 8 = .ok (.aload_n 0, 1) := by decide +kernel
theorem dX5_goesOn_9 : decode cX5_goesOn 9 = .ok (.aload_n 0, 1) := by decide +kernel
theorem dX5_goesOn_10 : decode cX5_goesOn 10 = .ok (.getfield 133, 3) := by decide +kernel
theorem dX5_goesOn_13 : decode cX5_goesOn 13 = .ok (.invokevirtual 156, 3) := by decide +kernel
theorem dX5_goesOn_16 : decode cX5_goesOn 16 = .ok (.invokevirtual 159, 3) := by decide +kernel
theorem dX5_goesOn_19 : decode cX5_goesOn 19 = .ok (.iinc 2 1, 3) := by decide +kernel
theorem dX5_goesOn_22 : decode cX5_goesOn 22 = .ok (.goto (-20), 3) := by decide +kernel
theorem dX5_goesOn_25 : decode cX5_goesOn 25 = .ok (.return_, 1) := by decide +kernel
theorem dX5_peak_0 : decode cX5_peak 0 = .ok (.aload_n 0, 1) := by decide +kernel
theorem dX5_peak_1 : decode cX5_peak 1 = .ok (.iload_n 1, 1) := by decide +kernel
theorem dX5_peak_2 : decode cX5_peak 2 = .ok (.invokevirtual 163, 3) := by decide +kernel
theorem dX5_peak_5 : decode cX5_peak 5 = .ok (.ifCond .eq 12, 3) := by decide +kernel
theorem dX5_peak_8 : decode cX5_peak 8 = .ok (.iload_n 2, 1) := by decide +kernel
theorem dX5_peak_9 : decode cX5_peak 9 = .ok (.iconst 0, 1) := by decide +kernel
theorem dX5_peak_10 : decode cX5_peak 10 = .ok (.iconst 5, 1) := by decide +kernel
theorem dX5_peak_11 : decode cX5_peak 11 = .ok (.invokestatic 81, 3) := by decide +kernel
theorem dX5_peak_14 : decode cX5_peak 14 = .ok (.ifCond .ne 5, 3) := by decide +kernel
theorem dX5_peak_17 : decode cX5_peak 17 = .ok (.iconst (-1), 1) := by decide +kernel
theorem dX5_peak_18 : decode cX5_peak 18 = .ok (.ireturn, 1) := by decide +kernel
theorem dX5_peak_19 : decode cX5_peak 19 = .ok (.iload_n 2, 1) := by decide +kernel
theorem dX5_peak_20 : decode cX5_peak 20 = .ok (.tableswitch 77 0 4 #[36, 43, 50, 56, 63], 36) := by decide +kernel
theorem dX5_peak_56 : decode cX5_peak 56 = .ok (.aload_n 0, 1) := by decide +kernel
theorem dX5_peak_57 : decode cX5_peak 57 = .ok (.getfield 9, 3) := by decide +kernel
theorem dX5_peak_60 : decode cX5_peak 60 = .ok (.iload_n 1, 1) := by decide +kernel
theorem dX5_peak_61 : decode cX5_peak 61 = .ok (.iaload, 1) := by decide +kernel
theorem dX5_peak_62 : decode cX5_peak 62 = .ok (.ireturn, 1) := by decide +kernel
theorem dX5_peak_63 : decode cX5_peak 63 = .ok (.aload_n 0, 1) := by decide +kernel
theorem dX5_peak_64 : decode cX5_peak 64 = .ok (.getfield 13, 3) := by decide +kernel
theorem dX5_peak_67 : decode cX5_peak 67 = .ok (.iload_n 1, 1) := by decide +kernel
theorem dX5_peak_68 : decode cX5_peak 68 = .ok (.iaload, 1) := by decide +kernel
theorem dX5_peak_69 : decode cX5_peak 69 = .ok (.ireturn, 1) := by decide +kernel
theorem dX5_peak_70 : decode cX5_peak 70 = .ok (.aload_n 0, 1) := by decide +kernel
theorem dX5_peak_71 : decode cX5_peak 71 = .ok (.iload_n 1, 1) := by decide +kernel
theorem dX5_peak_72 : decode cX5_peak 72 = .ok (.invokevirtual 85, 3) := by decide +kernel
theorem dX5_peak_75 : decode cX5_peak 75 = .ok (.ireturn, 1) := by decide +kernel
theorem dX5_peak_76 : decode cX5_peak 76 = .ok (.aload_n 0, 1) := by decide +kernel
theorem dX5_peak_77 : decode cX5_peak 77 = .ok (.getfield 25, 3) := by decide +kernel
theorem dX5_peak_80 : decode cX5_peak 80 = .ok (.iload_n 1, 1) := by decide +kernel
theorem dX5_peak_81 : decode cX5_peak 81 = .ok (.iaload, 1) := by decide +kernel
theorem dX5_peak_82 : decode cX5_peak 82 = .ok (.ireturn, 1) := by decide +kernel
theorem dX5_peak_83 : decode cX5_peak 83 = .ok (.aload_n 0, 1) := by decide +kernel
theorem dX5_peak_84 : decode cX5_peak 84 = .ok (.iload_n 1, 1) := by decide +kernel
theorem dX5_peak_85 : decode cX5_peak 85 = .ok (.aload_n 0, 1) := by decide +kernel
theorem dX5_peak_86 : decode cX5_peak 86 = .ok (.aload_n 0, 1) := by decide +kernel
theorem dX5_peak_87 : decode cX5_peak 87 = .ok (.getfield 133, 3) := by decide +kernel
theorem dX5_peak_90 : decode cX5_peak 90 = .ok (.invokevirtual 156, 3) := by decide +kernel
theorem dX5_peak_93 : decode cX5_peak 93 = .ok (.invokevirtual 153, 3) := by decide +kernel
theorem dX5_peak_96 : decode cX5_peak 96 = .ok (.ireturn, 1) := by decide +kernel
theorem dX5_peak_97 : decode cX5_peak 97 = .ok (.aload_n 0, 1) := by decide +kernel
theorem dX5_peak_98 : decode cX5_peak 98 = .ok (.iload_n 1, 1) := by decide +kernel
theorem dX5_peak_99 : decode cX5_peak 99 = .ok (.invokevirtual 167, 3) := by decide +kernel
theorem dX5_peak_102 : decode cX5_peak 102 = .ok (.ireturn, 1) := by decide +kernel
theorem dX5_pins_0 : decode cX5_pins 0 = .ok (.aload_n 0, 1) := by decide +kernel
theorem dX5_pins_1 : decode cX5_pins 1 = .ok (.iload_n 1, 1) := by decide +kernel
theorem dX5_pins_2 : decode cX5_pins 2 = .ok (.invokevirtual 163, 3) := by decide +kernel
theorem dX5_pins_5 : decode cX5_pins 5 = .ok (.ifCond .eq 23, 3) := by decide +kernel
theorem dX5_pins_8 : decode cX5_pins 8 = .ok (.iload_n 2, 1) := by decide +kernel
theorem dX5_pins_9 : decode cX5_pins 9 = .ok (.invokestatic 170, 3) := by decide +kernel
theorem dX5_pins_12 : decode cX5_pins 12 = .ok (.ifCond .eq 16, 3) := by decide +kernel
theorem dX5_pins_15 : decode cX5_pins 15 = .ok (.aload_n 0, 1) := by decide +kernel
theorem dX5_pins_16 : decode cX5_pins 16 = .ok (.getfield 19, 3) := by decide +kernel
theorem dX5_pins_19 : decode cX5_pins 19 = .ok (.iconst 5, 1) := by decide +kernel
theorem dX5_pins_20 : decode cX5_pins 20 = .ok (.iload_n 1, 1) := by decide +kernel
theorem dX5_pins_21 : decode cX5_pins 21 = .ok (.imul, 1) := by decide +kernel
theorem dX5_pins_22 : decode cX5_pins 22 = .ok (.iload_n 2, 1) := by decide +kernel
theorem dX5_pins_23 : decode cX5_pins 23 = .ok (.iadd, 1) := by decide +kernel
theorem dX5_pins_24 : decode cX5_pins 24 = .ok (.iaload, 1) := by decide +kernel
theorem dX5_pins_25 : decode cX5_pins 25 = .ok (.goto 4, 3) := by decide +kernel
theorem dX5_pins_28 : decode cX5_pins 28 = .ok (.iconst (-1), 1) := by decide +kernel
theorem dX5_pins_29 : decode cX5_pins 29 = .ok (.ireturn, 1) := by decide +kernel
theorem dX5_store_0 : decode cX5_store 0 = .ok (.iload_n 1, 1) := by decide +kernel
theorem dX5_store_1 : decode cX5_store 1 = .ok (.invokestatic 170, 3) := by decide +kernel
theorem dX5_store_4 : decode cX5_store 4 = .ok (.ifCond .eq 12, 3) := by decide +kernel
theorem dX5_store_7 : decode cX5_store 7 = .ok (.aload_n 0, 1) := by decide +kernel
theorem dX5_store_8 : decode cX5_store 8 = .ok (.getfield 22, 3) := by decide +kernel
theorem dX5_store_11 : decode cX5_store 11 = .ok (.iload_n 1, 1) := by decide +kernel
theorem dX5_store_12 : decode cX5_store 12 = .ok (.iaload, 1) := by decide +kernel
theorem dX5_store_13 : decode cX5_store 13 = .ok (.goto 4, 3) := by decide +kernel
theorem dX5_store_16 : decode cX5_store 16 = .ok (.iconst (-1), 1) := by decide +kernel
theorem dX5_store_17 : decode cX5_store 17 = .ok (.ireturn, 1) := by decide +kernel
theorem dX5_wind_0 : decode cX5_wind 0 = .ok (.iload_n 1, 1) := by decide +kernel
theorem dX5_wind_1 : decode cX5_wind 1 = .ok (.iconst 0, 1) := by decide +kernel
theorem dX5_wind_2 : decode cX5_wind 2 = .ok (.bipush 99, 2) := by decide +kernel
theorem dX5_wind_4 : decode cX5_wind 4 = .ok (.invokestatic 81, 3) := by decide +kernel
theorem dX5_wind_7 : decode cX5_wind 7 = .ok (.ifCond .eq 16, 3) := by decide +kernel
theorem dX5_wind_10 : decode cX5_wind 10 = .ok (.aload_n 0, 1) := by decide +kernel
theorem dX5_wind_11 : decode cX5_wind 11 = .ok (.aload_n 0, 1) := by decide +kernel
theorem dX5_wind_12 : decode cX5_wind 12 = .ok (.getfield 133, 3) := by decide +kernel
theorem dX5_wind_15 : decode cX5_wind 15 = .ok (.iload_n 1, 1) := by decide +kernel
theorem dX5_wind_16 : decode cX5_wind 16 = .ok (.iadd, 1) := by decide +kernel
theorem dX5_wind_17 : decode cX5_wind 17 = .ok (.invokevirtual 156, 3) := by decide +kernel
theorem dX5_wind_20 : decode cX5_wind 20 = .ok (.goto 4, 3) := by decide +kernel
theorem dX5_wind_23 : decode cX5_wind 23 = .ok (.iconst (-1), 1) := by decide +kernel
theorem dX5_wind_24 : decode cX5_wind 24 = .ok (.ireturn, 1) := by decide +kernel
theorem dX5_lays_0 : decode cX5_lays 0 = .ok (.aload_n 1, 1) := by decide +kernel
theorem dX5_lays_1 : decode cX5_lays 1 = .ok (.iload_n 2, 1) := by decide +kernel
theorem dX5_lays_2 : decode cX5_lays 2 = .ok (.aload_n 0, 1) := by decide +kernel
theorem dX5_lays_3 : decode cX5_lays 3 = .ok (.getfield 133, 3) := by decide +kernel
theorem dX5_lays_6 : decode cX5_lays 6 = .ok (.iastore, 1) := by decide +kernel
theorem dX5_lays_7 : decode cX5_lays 7 = .ok (.iconst 0, 1) := by decide +kernel
theorem dX5_lays_8 : decode cX5_lays 8 = .ok (.istore_n 3, 1) := by decide +kernel
theorem dX5_lays_9 : decode cX5_lays 9 = .ok (.iload_n 3, 1) := by decide +kernel
theorem dX5_lays_10 : decode cX5_lays 10 = .ok (.bipush 30, 2) := by decide +kernel
theorem dX5_lays_12 : decode cX5_lays 12 = .ok (.if_icmp .ge 22, 3) := by decide +kernel
theorem dX5_lays_15 : decode cX5_lays 15 = .ok (.aload_n 1, 1) := by decide +kernel
theorem dX5_lays_16 : decode cX5_lays 16 = .ok (.iload_n 2, 1) := by decide +kernel
theorem dX5_lays_17 : decode cX5_lays 17 = .ok (.iconst 1, 1) := by decide +kernel
theorem dX5_lays_18 : decode cX5_lays 18 = .ok (.iadd, 1) := by decide +kernel
theorem dX5_lays_19 : decode cX5_lays 19 = .ok (.iload_n 3, 1) := by decide +kernel
theorem dX5_lays_20 : decode cX5_lays 20 = .ok (.iadd, 1) := by decide +kernel
theorem dX5_lays_21 : decode cX5_lays 21 = .ok (.aload_n 0, 1) := by decide +kernel
theorem dX5_lays_22 : decode cX5_lays 22 = .ok (.getfield 19, 3) := by decide +kernel
theorem dX5_lays_25 : decode cX5_lays 25 = .ok (.iload_n 3, 1) := by decide +kernel
theorem dX5_lays_26 : decode cX5_lays 26 = .ok (.iaload, 1) := by decide +kernel
theorem dX5_lays_27 : decode cX5_lays 27 = .ok (.iastore, 1) := by decide +kernel
theorem dX5_lays_28 : decode cX5_lays 28 = .ok (.iinc 3 1, 3) := by decide +kernel
theorem dX5_lays_31 : decode cX5_lays 31 = .ok (.goto (-22), 3) := by decide +kernel
theorem dX5_lays_34 : decode cX5_lays 34 = .ok (.iconst 0, 1) := by decide +kernel
theorem dX5_lays_35 : decode cX5_lays 35 = .ok (.istore_n 3, 1) := by decide +kernel
theorem dX5_lays_36 : decode cX5_lays 36 = .ok (.iload_n 3, 1) := by decide +kernel
theorem dX5_lays_37 : decode cX5_lays 37 = .ok (.iconst 5, 1) := by decide +kernel
theorem dX5_lays_38 : decode cX5_lays 38 = .ok (.if_icmp .ge 23, 3) := by decide +kernel
theorem dX5_lays_41 : decode cX5_lays 41 = .ok (.aload_n 1, 1) := by decide +kernel
theorem dX5_lays_42 : decode cX5_lays 42 = .ok (.iload_n 2, 1) := by decide +kernel
theorem dX5_lays_43 : decode cX5_lays 43 = .ok (.bipush 31, 2) := by decide +kernel
theorem dX5_lays_45 : decode cX5_lays 45 = .ok (.iadd, 1) := by decide +kernel
theorem dX5_lays_46 : decode cX5_lays 46 = .ok (.iload_n 3, 1) := by decide +kernel
theorem dX5_lays_47 : decode cX5_lays 47 = .ok (.iadd, 1) := by decide +kernel
theorem dX5_lays_48 : decode cX5_lays 48 = .ok (.aload_n 0, 1) := by decide +kernel
theorem dX5_lays_49 : decode cX5_lays 49 = .ok (.getfield 22, 3) := by decide +kernel
theorem dX5_lays_52 : decode cX5_lays 52 = .ok (.iload_n 3, 1) := by decide +kernel
theorem dX5_lays_53 : decode cX5_lays 53 = .ok (.iaload, 1) := by decide +kernel
theorem dX5_lays_54 : decode cX5_lays 54 = .ok (.iastore, 1) := by decide +kernel
theorem dX5_lays_55 : decode cX5_lays 55 = .ok (.iinc 3 1, 3) := by decide +kernel
theorem dX5_lays_58 : decode cX5_lays 58 = .ok (.goto (-22), 3) := by decide +kernel
theorem dX5_lays_61 : decode cX5_lays 61 = .ok (.iconst 0, 1) := by decide +kernel
theorem dX5_lays_62 : decode cX5_lays 62 = .ok (.istore_n 3, 1) := by decide +kernel
theorem dX5_lays_63 : decode cX5_lays 63 = .ok (.iload_n 3, 1) := by decide +kernel
theorem dX5_lays_64 : decode cX5_lays 64 = .ok (.bipush 6, 2) := by decide +kernel
theorem dX5_lays_66 : decode cX5_lays 66 = .ok (.if_icmp .ge 23, 3) := by decide +kernel
theorem dX5_lays_69 : decode cX5_lays 69 = .ok (.aload_n 1, 1) := by decide +kernel
theorem dX5_lays_70 : decode cX5_lays 70 = .ok (.iload_n 2, 1) := by decide +kernel
theorem dX5_lays_71 : decode cX5_lays 71 = .ok (.bipush 36, 2) := by decide +kernel
theorem dX5_lays_73 : decode cX5_lays 73 = .ok (.iadd, 1) := by decide +kernel
theorem dX5_lays_74 : decode cX5_lays 74 = .ok (.iload_n 3, 1) := by decide +kernel
theorem dX5_lays_75 : decode cX5_lays 75 = .ok (.iadd, 1) := by decide +kernel
theorem dX5_lays_76 : decode cX5_lays 76 = .ok (.aload_n 0, 1) := by decide +kernel
theorem dX5_lays_77 : decode cX5_lays 77 = .ok (.getfield 25, 3) := by decide +kernel
theorem dX5_lays_80 : decode cX5_lays 80 = .ok (.iload_n 3, 1) := by decide +kernel
theorem dX5_lays_81 : decode cX5_lays 81 = .ok (.iaload, 1) := by decide +kernel
theorem dX5_lays_82 : decode cX5_lays 82 = .ok (.iastore, 1) := by decide +kernel
theorem dX5_lays_83 : decode cX5_lays 83 = .ok (.iinc 3 1, 3) := by decide +kernel
theorem dX5_lays_86 : decode cX5_lays 86 = .ok (.goto (-23), 3) := by decide +kernel
theorem dX5_lays_89 : decode cX5_lays 89 = .ok (.return_, 1) := by decide +kernel
theorem dX5_takes_0 : decode cX5_takes 0 = .ok (.aload_n 0, 1) := by decide +kernel
theorem dX5_takes_1 : decode cX5_takes 1 = .ok (.aload_n 1, 1) := by decide +kernel
theorem dX5_takes_2 : decode cX5_takes 2 = .ok (.iload_n 2, 1) := by decide +kernel
theorem dX5_takes_3 : decode cX5_takes 3 = .ok (.iaload, 1) := by decide +kernel
theorem dX5_takes_4 : decode cX5_takes 4 = .ok (.putfield 133, 3) := by decide +kernel
theorem dX5_takes_7 : decode cX5_takes 7 = .ok (.iconst 0, 1) := by decide +kernel
theorem dX5_takes_8 : decode cX5_takes 8 = .ok (.istore_n 3, 1) := by decide +kernel
theorem dX5_takes_9 : decode cX5_takes 9 = .ok (.iload_n 3, 1) := by decide +kernel
theorem dX5_takes_10 : decode cX5_takes 10 = .ok (.bipush 30, 2) := by decide +kernel
theorem dX5_takes_12 : decode cX5_takes 12 = .ok (.if_icmp .ge 22, 3) := by decide +kernel
theorem dX5_takes_15 : decode cX5_takes 15 = .ok (.aload_n 0, 1) := by decide +kernel
theorem dX5_takes_16 : decode cX5_takes 16 = .ok (.getfield 19, 3) := by decide +kernel
theorem dX5_takes_19 : decode cX5_takes 19 = .ok (.iload_n 3, 1) := by decide +kernel
theorem dX5_takes_20 : decode cX5_takes 20 = .ok (.aload_n 1, 1) := by decide +kernel
theorem dX5_takes_21 : decode cX5_takes 21 = .ok (.iload_n 2, 1) := by decide +kernel
theorem dX5_takes_22 : decode cX5_takes 22 = .ok (.iconst 1, 1) := by decide +kernel
theorem dX5_takes_23 : decode cX5_takes 23 = .ok (.iadd, 1) := by decide +kernel
theorem dX5_takes_24 : decode cX5_takes 24 = .ok (.iload_n 3, 1) := by decide +kernel
theorem dX5_takes_25 : decode cX5_takes 25 = .ok (.iadd, 1) := by decide +kernel
theorem dX5_takes_26 : decode cX5_takes 26 = .ok (.iaload, 1) := by decide +kernel
theorem dX5_takes_27 : decode cX5_takes 27 = .ok (.iastore, 1) := by decide +kernel
theorem dX5_takes_28 : decode cX5_takes 28 = .ok (.iinc 3 1, 3) := by decide +kernel
theorem dX5_takes_31 : decode cX5_takes 31 = .ok (.goto (-22), 3) := by decide +kernel
theorem dX5_takes_34 : decode cX5_takes 34 = .ok (.iconst 0, 1) := by decide +kernel
theorem dX5_takes_35 : decode cX5_takes 35 = .ok (.istore_n 3, 1) := by decide +kernel
theorem dX5_takes_36 : decode cX5_takes 36 = .ok (.iload_n 3, 1) := by decide +kernel
theorem dX5_takes_37 : decode cX5_takes 37 = .ok (.iconst 5, 1) := by decide +kernel
theorem dX5_takes_38 : decode cX5_takes 38 = .ok (.if_icmp .ge 23, 3) := by decide +kernel
theorem dX5_takes_41 : decode cX5_takes 41 = .ok (.aload_n 0, 1) := by decide +kernel
theorem dX5_takes_42 : decode cX5_takes 42 = .ok (.getfield 22, 3) := by decide +kernel
theorem dX5_takes_45 : decode cX5_takes 45 = .ok (.iload_n 3, 1) := by decide +kernel
theorem dX5_takes_46 : decode cX5_takes 46 = .ok (.aload_n 1, 1) := by decide +kernel
theorem dX5_takes_47 : decode cX5_takes 47 = .ok (.iload_n 2, 1) := by decide +kernel
theorem dX5_takes_48 : decode cX5_takes 48 = .ok (.bipush 31, 2) := by decide +kernel
theorem dX5_takes_50 : decode cX5_takes 50 = .ok (.iadd, 1) := by decide +kernel
theorem dX5_takes_51 : decode cX5_takes 51 = .ok (.iload_n 3, 1) := by decide +kernel
theorem dX5_takes_52 : decode cX5_takes 52 = .ok (.iadd, 1) := by decide +kernel
theorem dX5_takes_53 : decode cX5_takes 53 = .ok (.iaload, 1) := by decide +kernel
theorem dX5_takes_54 : decode cX5_takes 54 = .ok (.iastore, 1) := by decide +kernel
theorem dX5_takes_55 : decode cX5_takes 55 = .ok (.iinc 3 1, 3) := by decide +kernel
theorem dX5_takes_58 : decode cX5_takes 58 = .ok (.goto (-22), 3) := by decide +kernel
theorem dX5_takes_61 : decode cX5_takes 61 = .ok (.iconst 0, 1) := by decide +kernel
theorem dX5_takes_62 : decode cX5_takes 62 = .ok (.istore_n 3, 1) := by decide +kernel
theorem dX5_takes_63 : decode cX5_takes 63 = .ok (.iload_n 3, 1) := by decide +kernel
theorem dX5_takes_64 : decode cX5_takes 64 = .ok (.bipush 6, 2) := by decide +kernel
theorem dX5_takes_66 : decode cX5_takes 66 = .ok (.if_icmp .ge 23, 3) := by decide +kernel
theorem dX5_takes_69 : decode cX5_takes 69 = .ok (.aload_n 0, 1) := by decide +kernel
theorem dX5_takes_70 : decode cX5_takes 70 = .ok (.getfield 25, 3) := by decide +kernel
theorem dX5_takes_73 : decode cX5_takes 73 = .ok (.iload_n 3, 1) := by decide +kernel
theorem dX5_takes_74 : decode cX5_takes 74 = .ok (.aload_n 1, 1) := by decide +kernel
theorem dX5_takes_75 : decode cX5_takes 75 = .ok (.iload_n 2, 1) := by decide +kernel
theorem dX5_takes_76 : decode cX5_takes 76 = .ok (.bipush 36, 2) := by decide +kernel
theorem dX5_takes_78 : decode cX5_takes 78 = .ok (.iadd, 1) := by decide +kernel
theorem dX5_takes_79 : decode cX5_takes 79 = .ok (.iload_n 3, 1) := by decide +kernel
theorem dX5_takes_80 : decode cX5_takes 80 = .ok (.iadd, 1) := by decide +kernel
theorem dX5_takes_81 : decode cX5_takes 81 = .ok (.iaload, 1) := by decide +kernel
theorem dX5_takes_82 : decode cX5_takes 82 = .ok (.iastore, 1) := by decide +kernel
theorem dX5_takes_83 : decode cX5_takes 83 = .ok (.iinc 3 1, 3) := by decide +kernel
theorem dX5_takes_86 : decode cX5_takes 86 = .ok (.goto (-23), 3) := by decide +kernel
theorem dX5_takes_89 : decode cX5_takes 89 = .ok (.return_, 1) := by decide +kernel
theorem dX5_notes_0 : decode cX5_notes 0 = .ok (.aload_n 0, 1) := by decide +kernel
theorem dX5_notes_1 : decode cX5_notes 1 = .ok (.getfield 139, 3) := by decide +kernel
theorem dX5_notes_4 : decode cX5_notes 4 = .ok (.bipush 8, 2) := by decide +kernel
theorem dX5_notes_6 : decode cX5_notes 6 = .ok (.if_icmp .ne 43, 3) := by decide +kernel
theorem dX5_notes_9 : decode cX5_notes 9 = .ok (.iconst 0, 1) := by decide +kernel
theorem dX5_notes_10 : decode cX5_notes 10 = .ok (.istore_n 1, 1) := by decide +kernel
theorem dX5_notes_11 : decode cX5_notes 11 = .ok (.iload_n 1, 1) := by decide +kernel
theorem dX5_notes_12 : decode cX5_notes 12 = .ok (.sipush 294, 3) := by decide +kernel
theorem dX5_notes_15 : decode cX5_notes 15 = .ok (.if_icmp .ge 24, 3) := by decide +kernel
theorem dX5_notes_18 : decode cX5_notes 18 = .ok (.aload_n 0, 1) := by decide +kernel
theorem dX5_notes_19 : decode cX5_notes 19 = .ok (.getfield 52, 3) := by decide +kernel
theorem dX5_notes_22 : decode cX5_notes 22 = .ok (.iload_n 1, 1) := by decide +kernel
theorem dX5_notes_23 : decode cX5_notes 23 = .ok (.aload_n 0, 1) := by decide +kernel
theorem dX5_notes_24 : decode cX5_notes 24 = .ok (.getfield 52, 3) := by decide +kernel
theorem dX5_notes_27 : decode cX5_notes 27 = .ok (.iload_n 1, 1) := by decide +kernel
theorem dX5_notes_28 : decode cX5_notes 28 = .ok (.bipush 42, 2) := by decide +kernel
theorem dX5_notes_30 : decode cX5_notes 30 = .ok (.iadd, 1) := by decide +kernel
theorem dX5_notes_31 : decode cX5_notes 31 = .ok (.iaload, 1) := by decide +kernel
theorem dX5_notes_32 : decode cX5_notes 32 = .ok (.iastore, 1) := by decide +kernel
theorem dX5_notes_33 : decode cX5_notes 33 = .ok (.iinc 1 1, 3) := by decide +kernel
theorem dX5_notes_36 : decode cX5_notes 36 = .ok (.goto (-25), 3) := by decide +kernel
theorem dX5_notes_39 : decode cX5_notes 39 = .ok (.aload_n 0, 1) := by decide +kernel
theorem dX5_notes_40 : decode cX5_notes 40 = .ok (.dup, 1) := by decide +kernel
theorem dX5_notes_41 : decode cX5_notes 41 = .ok (.getfield 139, 3) := by decide +kernel
theorem dX5_notes_44 : decode cX5_notes 44 = .ok (.iconst 1, 1) := by decide +kernel
theorem dX5_notes_45 : decode cX5_notes 45 = .ok (.isub, 1) := by decide +kernel
theorem dX5_notes_46 : decode cX5_notes 46 = .ok (.putfield 139, 3) := by decide +kernel
theorem dX5_notes_49 : decode cX5_notes 49 = .ok (.aload_n 0, 1) := by decide +kernel
theorem dX5_notes_50 : decode cX5_notes 50 = .ok (.aload_n 0, 1) := by decide +kernel
theorem dX5_notes_51 : decode cX5_notes 51 = .ok (.getfield 52, 3) := by decide +kernel
theorem dX5_notes_54 : decode cX5_notes 54 = .ok (.bipush 42, 2) := by decide +kernel
theorem dX5_notes_56 : decode cX5_notes 56 = .ok (.aload_n 0, 1) := by decide +kernel
theorem dX5_notes_57 : decode cX5_notes 57 = .ok (.getfield 139, 3) := by decide +kernel
theorem dX5_notes_60 : decode cX5_notes 60 = .ok (.imul, 1) := by decide +kernel
theorem dX5_notes_61 : decode cX5_notes 61 = .ok (.invokevirtual 173, 3) := by decide +kernel
theorem dX5_notes_64 : decode cX5_notes 64 = .ok (.aload_n 0, 1) := by decide +kernel
theorem dX5_notes_65 : decode cX5_notes 65 = .ok (.dup, 1) := by decide +kernel
theorem dX5_notes_66 : decode cX5_notes 66 = .ok (.getfield 139, 3) := by decide +kernel
theorem dX5_notes_69 : decode cX5_notes 69 = .ok (.iconst 1, 1) := by decide +kernel
theorem dX5_notes_70 : decode cX5_notes 70 = .ok (.iadd, 1) := by decide +kernel
theorem dX5_notes_71 : decode cX5_notes 71 = .ok (.putfield 139, 3) := by decide +kernel
theorem dX5_notes_74 : decode cX5_notes 74 = .ok (.return_, 1) := by decide +kernel
theorem dX5_mayPut_0 : decode cX5_mayPut 0 = .ok (.aload_n 0, 1) := by decide +kernel
theorem dX5_mayPut_1 : decode cX5_mayPut 1 = .ok (.getfield 19, 3) := by decide +kernel
theorem dX5_mayPut_4 : decode cX5_mayPut 4 = .ok (.iconst 5, 1) := by decide +kernel
theorem dX5_mayPut_5 : decode cX5_mayPut 5 = .ok (.iload_n 1, 1) := by decide +kernel
theorem dX5_mayPut_6 : decode cX5_mayPut 6 = .ok (.imul, 1) := by decide +kernel
theorem dX5_mayPut_7 : decode cX5_mayPut 7 = .ok (.iload_n 2, 1) := by decide +kernel
theorem dX5_mayPut_8 : decode cX5_mayPut 8 = .ok (.iadd, 1) := by decide +kernel
theorem dX5_mayPut_9 : decode cX5_mayPut 9 = .ok (.iaload, 1) := by decide +kernel
theorem dX5_mayPut_10 : decode cX5_mayPut 10 = .ok (.ifCond .ne 16, 3) := by decide +kernel
theorem dX5_mayPut_13 : decode cX5_mayPut 13 = .ok (.aload_n 0, 1) := by decide +kernel
theorem dX5_mayPut_14 : decode cX5_mayPut 14 = .ok (.getfield 22, 3) := by decide +kernel
theorem dX5_mayPut_17 : decode cX5_mayPut 17 = .ok (.iload_n 2, 1) := by decide +kernel
theorem dX5_mayPut_18 : decode cX5_mayPut 18 = .ok (.iaload, 1) := by decide +kernel
theorem dX5_mayPut_19 : decode cX5_mayPut 19 = .ok (.ifCond .le 7, 3) := by decide +kernel
theorem dX5_mayPut_22 : decode cX5_mayPut 22 = .ok (.iconst 1, 1) := by decide +kernel
theorem dX5_mayPut_23 : decode cX5_mayPut 23 = .ok (.goto 4, 3) := by decide +kernel
theorem dX5_mayPut_26 : decode cX5_mayPut 26 = .ok (.iconst 0, 1) := by decide +kernel
theorem dX5_mayPut_27 : decode cX5_mayPut 27 = .ok (.ireturn, 1) := by decide +kernel
theorem dX5_puts_0 : decode cX5_puts 0 = .ok (.aload_n 0, 1) := by decide +kernel
theorem dX5_puts_1 : decode cX5_puts 1 = .ok (.getfield 19, 3) := by decide +kernel
theorem dX5_puts_4 : decode cX5_puts 4 = .ok (.iconst 5, 1) := by decide +kernel
theorem dX5_puts_5 : decode cX5_puts 5 = .ok (.iload_n 1, 1) := by decide +kernel
theorem dX5_puts_6 : decode cX5_puts 6 = .ok (.imul, 1) := by decide +kernel
theorem dX5_puts_7 : decode cX5_puts 7 = .ok (.iload_n 2, 1) := by decide +kernel
theorem dX5_puts_8 : decode cX5_puts 8 = .ok (.iadd, 1) := by decide +kernel
theorem dX5_puts_9 : decode cX5_puts 9 = .ok (.iload_n 3, 1) := by decide +kernel
theorem dX5_puts_10 : decode cX5_puts 10 = .ok (.iastore, 1) := by decide +kernel
theorem dX5_puts_11 : decode cX5_puts 11 = .ok (.aload_n 0, 1) := by decide +kernel
theorem dX5_puts_12 : decode cX5_puts 12 = .ok (.getfield 22, 3) := by decide +kernel
theorem dX5_puts_15 : decode cX5_puts 15 = .ok (.iload_n 2, 1) := by decide +kernel
theorem dX5_puts_16 : decode cX5_puts 16 = .ok (.dup2, 1) := by decide +kernel
theorem dX5_puts_17 : decode cX5_puts 17 = .ok (.iaload, 1) := by decide +kernel
theorem dX5_puts_18 : decode cX5_puts 18 = .ok (.iconst 1, 1) := by decide +kernel
theorem dX5_puts_19 : decode cX5_puts 19 = .ok (.isub, 1) := by decide +kernel
theorem dX5_puts_20 : decode cX5_puts 20 = .ok (.iastore, 1) := by decide +kernel
theorem dX5_puts_21 : decode cX5_puts 21 = .ok (.return_, 1) := by decide +kernel
theorem dX5_takesOff_0 : decode cX5_takesOff 0 = .ok (.aload_n 0, 1) := by decide +kernel
theorem dX5_takesOff_1 : decode cX5_takesOff 1 = .ok (.getfield 19, 3) := by decide +kernel
theorem dX5_takesOff_4 : decode cX5_takesOff 4 = .ok (.iconst 5, 1) := by decide +kernel
theorem dX5_takesOff_5 : decode cX5_takesOff 5 = .ok (.iload_n 1, 1) := by decide +kernel
theorem dX5_takesOff_6 : decode cX5_takesOff 6 = .ok (.imul, 1) := by decide +kernel
theorem dX5_takesOff_7 : decode cX5_takesOff 7 = .ok (.iload_n 2, 1) := by decide +kernel
theorem dX5_takesOff_8 : decode cX5_takesOff 8 = .ok (.iadd, 1) := by decide +kernel
theorem dX5_takesOff_9 : decode cX5_takesOff 9 = .ok (.iconst 0, 1) := by decide +kernel
theorem dX5_takesOff_10 : decode cX5_takesOff 10 = .ok (.iastore, 1) := by decide +kernel
theorem dX5_takesOff_11 : decode cX5_takesOff 11 = .ok (.aload_n 0, 1) := by decide +kernel
theorem dX5_takesOff_12 : decode cX5_takesOff 12 = .ok (.getfield 22, 3) := by decide +kernel
theorem dX5_takesOff_15 : decode cX5_takesOff 15 = .ok (.iload_n 2, 1) := by decide +kernel
theorem dX5_takesOff_16 : decode cX5_takesOff 16 = .ok (.dup2, 1) := by decide +kernel
theorem dX5_takesOff_17 : decode cX5_takesOff 17 = .ok (.iaload, 1) := by decide +kernel
theorem dX5_takesOff_18 : decode cX5_takesOff 18 = .ok (.iconst 1, 1) := by decide +kernel
theorem dX5_takesOff_19 : decode cX5_takesOff 19 = .ok (.iadd, 1) := by decide +kernel
theorem dX5_takesOff_20 : decode cX5_takesOff 20 = .ok (.iastore, 1) := by decide +kernel
theorem dX5_takesOff_21 : decode cX5_takesOff 21 = .ok (.return_, 1) := by decide +kernel
theorem dX5_put_0 : decode cX5_put 0 = .ok (.aload_n 0, 1) := by decide +kernel
theorem dX5_put_1 : decode cX5_put 1 = .ok (.iload_n 1, 1) := by decide +kernel
theorem dX5_put_2 : decode cX5_put 2 = .ok (.invokevirtual 163, 3) := by decide +kernel
theorem dX5_put_5 : decode cX5_put 5 = .ok (.ifCond .eq 20, 3) := by decide +kernel
theorem dX5_put_8 : decode cX5_put 8 = .ok (.iload_n 2, 1) := by decide +kernel
theorem dX5_put_9 : decode cX5_put 9 = .ok (.invokestatic 170, 3) := by decide +kernel
theorem dX5_put_12 : decode cX5_put 12 = .ok (.ifCond .eq 13, 3) := by decide +kernel
theorem dX5_put_15 : decode cX5_put 15 = .ok (.iload_n 3, 1) := by decide +kernel
theorem dX5_put_16 : decode cX5_put 16 = .ok (.iconst 1, 1) := by decide +kernel
theorem dX5_put_17 : decode cX5_put 17 = .ok (.bipush 20, 2) := by decide +kernel
theorem dX5_put_19 : decode cX5_put 19 = .ok (.invokestatic 81, 3) := by decide +kernel
theorem dX5_put_22 : decode cX5_put 22 = .ok (.ifCond .ne 5, 3) := by decide +kernel
theorem dX5_put_25 : decode cX5_put 25 = .ok (.iconst (-1), 1) := by decide +kernel
theorem dX5_put_26 : decode cX5_put 26 = .ok (.ireturn, 1) := by decide +kernel
theorem dX5_put_27 : decode cX5_put 27 = .ok (.aload_n 0, 1) := by decide +kernel
theorem dX5_put_28 : decode cX5_put 28 = .ok (.iload_n 1, 1) := by decide +kernel
theorem dX5_put_29 : decode cX5_put 29 = .ok (.iload_n 2, 1) := by decide +kernel
theorem dX5_put_30 : decode cX5_put 30 = .ok (.invokevirtual 177, 3) := by decide +kernel
theorem dX5_put_33 : decode cX5_put 33 = .ok (.ifCond .ne 6, 3) := by decide +kernel
theorem dX5_put_36 : decode cX5_put 36 = .ok (.bipush (-2), 2) := by decide +kernel
theorem dX5_put_38 : decode cX5_put 38 = .ok (.ireturn, 1) := by decide +kernel
theorem dX5_put_39 : decode cX5_put 39 = .ok (.aload_n 0, 1) := by decide +kernel
theorem dX5_put_40 : decode cX5_put 40 = .ok (.invokevirtual 180, 3) := by decide +kernel
theorem dX5_put_43 : decode cX5_put 43 = .ok (.aload_n 0, 1) := by decide +kernel
theorem dX5_put_44 : decode cX5_put 44 = .ok (.iload_n 1, 1) := by decide +kernel
theorem dX5_put_45 : decode cX5_put 45 = .ok (.iload_n 2, 1) := by decide +kernel
theorem dX5_put_46 : decode cX5_put 46 = .ok (.iload_n 3, 1) := by decide +kernel
theorem dX5_put_47 : decode cX5_put 47 = .ok (.invokevirtual 183, 3) := by decide +kernel
theorem dX5_put_50 : decode cX5_put 50 = .ok (.aload_n 0, 1) := by decide +kernel
theorem dX5_put_51 : decode cX5_put 51 = .ok (.iload_n 1, 1) := by decide +kernel
theorem dX5_put_52 : decode cX5_put 52 = .ok (.invokevirtual 85, 3) := by decide +kernel
theorem dX5_put_55 : decode cX5_put 55 = .ok (.ireturn, 1) := by decide +kernel
theorem dX5_take_0 : decode cX5_take 0 = .ok (.aload_n 0, 1) := by decide +kernel
theorem dX5_take_1 : decode cX5_take 1 = .ok (.iload_n 1, 1) := by decide +kernel
theorem dX5_take_2 : decode cX5_take 2 = .ok (.invokevirtual 163, 3) := by decide +kernel
theorem dX5_take_5 : decode cX5_take 5 = .ok (.ifCond .eq 10, 3) := by decide +kernel
theorem dX5_take_8 : decode cX5_take 8 = .ok (.iload_n 2, 1) := by decide +kernel
theorem dX5_take_9 : decode cX5_take 9 = .ok (.invokestatic 170, 3) := by decide +kernel
theorem dX5_take_12 : decode cX5_take 12 = .ok (.ifCond .ne 5, 3) := by decide +kernel
theorem dX5_take_15 : decode cX5_take 15 = .ok (.iconst (-1), 1) := by decide +kernel
theorem dX5_take_16 : decode cX5_take 16 = .ok (.ireturn, 1) := by decide +kernel
theorem dX5_take_17 : decode cX5_take 17 = .ok (.aload_n 0, 1) := by decide +kernel
theorem dX5_take_18 : decode cX5_take 18 = .ok (.getfield 19, 3) := by decide +kernel
theorem dX5_take_21 : decode cX5_take 21 = .ok (.iconst 5, 1) := by decide +kernel
theorem dX5_take_22 : decode cX5_take 22 = .ok (.iload_n 1, 1) := by decide +kernel
theorem dX5_take_23 : decode cX5_take 23 = .ok (.imul, 1) := by decide +kernel
theorem dX5_take_24 : decode cX5_take 24 = .ok (.iload_n 2, 1) := by decide +kernel
theorem dX5_take_25 : decode cX5_take 25 = .ok (.iadd, 1) := by decide +kernel
theorem dX5_take_26 : decode cX5_take 26 = .ok (.iaload, 1) := by decide +kernel
theorem dX5_take_27 : decode cX5_take 27 = .ok (.ifCond .ne 6, 3) := by decide +kernel
theorem dX5_take_30 : decode cX5_take 30 = .ok (.bipush (-2), 2) := by decide +kernel
theorem dX5_take_32 : decode cX5_take 32 = .ok (.ireturn, 1) := by decide +kernel
theorem dX5_take_33 : decode cX5_take 33 = .ok (.aload_n 0, 1) := by decide +kernel
theorem dX5_take_34 : decode cX5_take 34 = .ok (.invokevirtual 180, 3) := by decide +kernel
theorem dX5_take_37 : decode cX5_take 37 = .ok (.aload_n 0, 1) := by decide +kernel
theorem dX5_take_38 : decode cX5_take 38 = .ok (.iload_n 1, 1) := by decide +kernel
theorem dX5_take_39 : decode cX5_take 39 = .ok (.iload_n 2, 1) := by decide +kernel
theorem dX5_take_40 : decode cX5_take 40 = .ok (.invokevirtual 187, 3) := by decide +kernel
theorem dX5_take_43 : decode cX5_take 43 = .ok (.aload_n 0, 1) := by decide +kernel
theorem dX5_take_44 : decode cX5_take 44 = .ok (.iload_n 1, 1) := by decide +kernel
theorem dX5_take_45 : decode cX5_take 45 = .ok (.invokevirtual 85, 3) := by decide +kernel
theorem dX5_take_48 : decode cX5_take 48 = .ok (.ireturn, 1) := by decide +kernel
theorem dX5_pin_0 : decode cX5_pin 0 = .ok (.aload_n 0, 1) := by decide +kernel
theorem dX5_pin_1 : decode cX5_pin 1 = .ok (.iload_n 1, 1) := by decide +kernel
theorem dX5_pin_2 : decode cX5_pin 2 = .ok (.invokevirtual 163, 3) := by decide +kernel
theorem dX5_pin_5 : decode cX5_pin 5 = .ok (.ifCond .eq 20, 3) := by decide +kernel
theorem dX5_pin_8 : decode cX5_pin 8 = .ok (.iload_n 2, 1) := by decide +kernel
theorem dX5_pin_9 : decode cX5_pin 9 = .ok (.invokestatic 170, 3) := by decide +kernel
theorem dX5_pin_12 : decode cX5_pin 12 = .ok (.ifCond .eq 13, 3) := by decide +kernel
theorem dX5_pin_15 : decode cX5_pin 15 = .ok (.iload_n 3, 1) := by decide +kernel
theorem dX5_pin_16 : decode cX5_pin 16 = .ok (.iconst 1, 1) := by decide +kernel
theorem dX5_pin_17 : decode cX5_pin 17 = .ok (.bipush 20, 2) := by decide +kernel
theorem dX5_pin_19 : decode cX5_pin 19 = .ok (.invokestatic 81, 3) := by decide +kernel
theorem dX5_pin_22 : decode cX5_pin 22 = .ok (.ifCond .ne 5, 3) := by decide +kernel
theorem dX5_pin_25 : decode cX5_pin 25 = .ok (.iconst (-1), 1) := by decide +kernel
theorem dX5_pin_26 : decode cX5_pin 26 = .ok (.ireturn, 1) := by decide +kernel
theorem dX5_pin_27 : decode cX5_pin 27 = .ok (.aload_n 0, 1) := by decide +kernel
theorem dX5_pin_28 : decode cX5_pin 28 = .ok (.getfield 19, 3) := by decide +kernel
theorem dX5_pin_31 : decode cX5_pin 31 = .ok (.iconst 5, 1) := by decide +kernel
theorem dX5_pin_32 : decode cX5_pin 32 = .ok (.iload_n 1, 1) := by decide +kernel
theorem dX5_pin_33 : decode cX5_pin 33 = .ok (.imul, 1) := by decide +kernel
theorem dX5_pin_34 : decode cX5_pin 34 = .ok (.iload_n 2, 1) := by decide +kernel
theorem dX5_pin_35 : decode cX5_pin 35 = .ok (.iadd, 1) := by decide +kernel
theorem dX5_pin_36 : decode cX5_pin 36 = .ok (.iaload, 1) := by decide +kernel
theorem dX5_pin_37 : decode cX5_pin 37 = .ok (.istore 4, 2) := by decide +kernel
theorem dX5_pin_39 : decode cX5_pin 39 = .ok (.iload 4, 2) := by decide +kernel
theorem dX5_pin_41 : decode cX5_pin 41 = .ok (.ifCond .ne 6, 3) := by decide +kernel
theorem dX5_pin_44 : decode cX5_pin 44 = .ok (.bipush (-2), 2) := by decide +kernel
theorem dX5_pin_46 : decode cX5_pin 46 = .ok (.ireturn, 1) := by decide +kernel
theorem dX5_pin_47 : decode cX5_pin 47 = .ok (.aload_n 0, 1) := by decide +kernel
theorem dX5_pin_48 : decode cX5_pin 48 = .ok (.invokevirtual 180, 3) := by decide +kernel
theorem dX5_pin_51 : decode cX5_pin 51 = .ok (.aload_n 0, 1) := by decide +kernel
theorem dX5_pin_52 : decode cX5_pin 52 = .ok (.getfield 19, 3) := by decide +kernel
theorem dX5_pin_55 : decode cX5_pin 55 = .ok (.iconst 5, 1) := by decide +kernel
theorem dX5_pin_56 : decode cX5_pin 56 = .ok (.iload_n 1, 1) := by decide +kernel
theorem dX5_pin_57 : decode cX5_pin 57 = .ok (.imul, 1) := by decide +kernel
theorem dX5_pin_58 : decode cX5_pin 58 = .ok (.iload_n 2, 1) := by decide +kernel
theorem dX5_pin_59 : decode cX5_pin 59 = .ok (.iadd, 1) := by decide +kernel
theorem dX5_pin_60 : decode cX5_pin 60 = .ok (.iload_n 3, 1) := by decide +kernel
theorem dX5_pin_61 : decode cX5_pin 61 = .ok (.iastore, 1) := by decide +kernel
theorem dX5_pin_62 : decode cX5_pin 62 = .ok (.iload 4, 2) := by decide +kernel
theorem dX5_pin_64 : decode cX5_pin 64 = .ok (.ireturn, 1) := by decide +kernel
theorem dX5_pass_0 : decode cX5_pass 0 = .ok (.iload_n 1, 1) := by decide +kernel
theorem dX5_pass_1 : decode cX5_pass 1 = .ok (.iconst 1, 1) := by decide +kernel
theorem dX5_pass_2 : decode cX5_pass 2 = .ok (.bipush 20, 2) := by decide +kernel
theorem dX5_pass_4 : decode cX5_pass 4 = .ok (.invokestatic 81, 3) := by decide +kernel
theorem dX5_pass_7 : decode cX5_pass 7 = .ok (.ifCond .ne 5, 3) := by decide +kernel
theorem dX5_pass_10 : decode cX5_pass 10 = .ok (.iconst (-1), 1) := by decide +kernel
theorem dX5_pass_11 : decode cX5_pass 11 = .ok (.ireturn, 1) := by decide +kernel
theorem dX5_pass_12 : decode cX5_pass 12 = .ok (.aload_n 0, 1) := by decide +kernel
theorem dX5_pass_13 : decode cX5_pass 13 = .ok (.getfield 133, 3) := by decide +kernel
theorem dX5_pass_16 : decode cX5_pass 16 = .ok (.iload_n 1, 1) := by decide +kernel
theorem dX5_pass_17 : decode cX5_pass 17 = .ok (.iadd, 1) := by decide +kernel
theorem dX5_pass_18 : decode cX5_pass 18 = .ok (.sipush 999, 3) := by decide +kernel
theorem dX5_pass_21 : decode cX5_pass 21 = .ok (.if_icmp .le 6, 3) := by decide +kernel
theorem dX5_pass_24 : decode cX5_pass 24 = .ok (.bipush (-2), 2) := by decide +kernel
theorem dX5_pass_26 : decode cX5_pass 26 = .ok (.ireturn, 1) := by decide +kernel
theorem dX5_pass_27 : decode cX5_pass 27 = .ok (.aload_n 0, 1) := by decide +kernel
theorem dX5_pass_28 : decode cX5_pass 28 = .ok (.invokevirtual 180, 3) := by decide +kernel
theorem dX5_pass_31 : decode cX5_pass 31 = .ok (.aload_n 0, 1) := by decide +kernel
theorem dX5_pass_32 : decode cX5_pass 32 = .ok (.iload_n 1, 1) := by decide +kernel
theorem dX5_pass_33 : decode cX5_pass 33 = .ok (.invokevirtual 190, 3) := by decide +kernel
theorem dX5_pass_36 : decode cX5_pass 36 = .ok (.aload_n 0, 1) := by decide +kernel
theorem dX5_pass_37 : decode cX5_pass 37 = .ok (.getfield 133, 3) := by decide +kernel
theorem dX5_pass_40 : decode cX5_pass 40 = .ok (.ireturn, 1) := by decide +kernel
theorem dX5_undo_0 : decode cX5_undo 0 = .ok (.aload_n 0, 1) := by decide +kernel
theorem dX5_undo_1 : decode cX5_undo 1 = .ok (.getfield 139, 3) := by decide +kernel
theorem dX5_undo_4 : decode cX5_undo 4 = .ok (.ifCond .ne 6, 3) := by decide +kernel
theorem dX5_undo_7 : decode cX5_undo 7 = .ok (.bipush (-2), 2) := by decide +kernel
theorem dX5_undo_9 : decode cX5_undo 9 = .ok (.ireturn, 1) := by decide +kernel
theorem dX5_undo_10 : decode cX5_undo 10 = .ok (.aload_n 0, 1) := by decide +kernel
theorem dX5_undo_11 : decode cX5_undo 11 = .ok (.dup, 1) := by decide +kernel
theorem dX5_undo_12 : decode cX5_undo 12 = .ok (.getfield 139, 3) := by decide +kernel
theorem dX5_undo_15 : decode cX5_undo 15 = .ok (.iconst 1, 1) := by decide +kernel
theorem dX5_undo_16 : decode cX5_undo 16 = .ok (.isub, 1) := by decide +kernel
theorem dX5_undo_17 : decode cX5_undo 17 = .ok (.putfield 139, 3) := by decide +kernel
theorem dX5_undo_20 : decode cX5_undo 20 = .ok (.aload_n 0, 1) := by decide +kernel
theorem dX5_undo_21 : decode cX5_undo 21 = .ok (.aload_n 0, 1) := by decide +kernel
theorem dX5_undo_22 : decode cX5_undo 22 = .ok (.getfield 52, 3) := by decide +kernel
theorem dX5_undo_25 : decode cX5_undo 25 = .ok (.bipush 42, 2) := by decide +kernel
theorem dX5_undo_27 : decode cX5_undo 27 = .ok (.aload_n 0, 1) := by decide +kernel
theorem dX5_undo_28 : decode cX5_undo 28 = .ok (.getfield 139, 3) := by decide +kernel
theorem dX5_undo_31 : decode cX5_undo 31 = .ok (.imul, 1) := by decide +kernel
theorem dX5_undo_32 : decode cX5_undo 32 = .ok (.invokevirtual 193, 3) := by decide +kernel
theorem dX5_undo_35 : decode cX5_undo 35 = .ok (.aload_n 0, 1) := by decide +kernel
theorem dX5_undo_36 : decode cX5_undo 36 = .ok (.getfield 139, 3) := by decide +kernel
theorem dX5_undo_39 : decode cX5_undo 39 = .ok (.ireturn, 1) := by decide +kernel
theorem dX5_begin_0 : decode cX5_begin 0 = .ok (.aload_n 0, 1) := by decide +kernel
theorem dX5_begin_1 : decode cX5_begin 1 = .ok (.aload_n 0, 1) := by decide +kernel
theorem dX5_begin_2 : decode cX5_begin 2 = .ok (.getfield 55, 3) := by decide +kernel
theorem dX5_begin_5 : decode cX5_begin 5 = .ok (.iconst 0, 1) := by decide +kernel
theorem dX5_begin_6 : decode cX5_begin 6 = .ok (.invokevirtual 173, 3) := by decide +kernel
theorem dX5_begin_9 : decode cX5_begin 9 = .ok (.return_, 1) := by decide +kernel
theorem dX5_putBack_0 : decode cX5_putBack 0 = .ok (.aload_n 0, 1) := by decide +kernel
theorem dX5_putBack_1 : decode cX5_putBack 1 = .ok (.aload_n 0, 1) := by decide +kernel
theorem dX5_putBack_2 : decode cX5_putBack 2 = .ok (.getfield 55, 3) := by decide +kernel
theorem dX5_putBack_5 : decode cX5_putBack 5 = .ok (.iconst 0, 1) := by decide +kernel
theorem dX5_putBack_6 : decode cX5_putBack 6 = .ok (.invokevirtual 193, 3) := by decide +kernel
theorem dX5_putBack_9 : decode cX5_putBack 9 = .ok (.return_, 1) := by decide +kernel
theorem dX5_pairsAlike_0 : decode cX5_pairsAlike 0 = .ok (.iconst 0, 1) := by decide +kernel
theorem dX5_pairsAlike_1 : decode cX5_pairsAlike 1 = .ok (.istore_n 1, 1) := by decide +kernel
theorem dX5_pairsAlike_2 : decode cX5_pairsAlike 2 = .ok (.iconst 0, 1) := by decide +kernel
theorem dX5_pairsAlike_3 : decode cX5_pairsAlike 3 = .ok (.istore_n 2, 1) := by decide +kernel
theorem dX5_pairsAlike_4 : decode cX5_pairsAlike 4 = .ok (.iload_n 2, 1) := by decide +kernel
theorem dX5_pairsAlike_5 : decode cX5_pairsAlike 5 = .ok (.aload_n 0, 1) := by decide +kernel
theorem dX5_pairsAlike_6 : decode cX5_pairsAlike 6 = .ok (.getfield 78, 3) := by decide +kernel
theorem dX5_pairsAlike_9 : decode cX5_pairsAlike 9 = .ok (.if_icmp .ge 48, 3) := by decide +kernel
theorem dX5_pairsAlike_12 : decode cX5_pairsAlike 12 = .ok (.iload_n 2, 1) := by decide +kernel
theorem dX5_pairsAlike_13 : decode cX5_pairsAlike 13 = .ok (.iconst 1, 1) := by decide +kernel
theorem dX5_pairsAlike_14 : decode cX5_pairsAlike 14 = .ok (.iadd, 1) := by decide +kernel
theorem dX5_pairsAlike_15 : decode cX5_pairsAlike 15 = .ok (.istore_n 3, 1) := by decide +kernel
theorem dX5_pairsAlike_16 : decode cX5_pairsAlike 16 = .ok (.iload_n 3, 1) := by decide +kernel
theorem dX5_pairsAlike_17 : decode cX5_pairsAlike 17 = .ok (.aload_n 0, 1) := by decide +kernel
theorem dX5_pairsAlike_18 : decode cX5_pairsAlike 18 = .ok (.getfield 78, 3) := by decide +kernel
theorem dX5_pairsAlike_21 : decode cX5_pairsAlike 21 = .ok (.if_icmp .ge 30, 3) := by decide +kernel
theorem dX5_pairsAlike_24 : decode cX5_pairsAlike 24 = .ok (.iload_n 1, 1) := by decide +kernel
theorem dX5_pairsAlike_25 : decode cX5_pairsAlike 25 = .ok (.aload_n 0, 1) := by decide +kernel
theorem dX5_pairsAlike_26 : decode cX5_pairsAlike 26 = .ok (.iload_n 2, 1) := by decide +kernel
theorem dX5_pairsAlike_27 : decode cX5_pairsAlike 27 = .ok (.invokevirtual 85, 3) := by decide +kernel
theorem dX5_pairsAlike_30 : decode cX5_pairsAlike 30 = .ok (.aload_n 0, 1) := by decide +kernel
theorem dX5_pairsAlike_31 : decode cX5_pairsAlike 31 = .ok (.iload_n 3, 1) := by decide +kernel
theorem dX5_pairsAlike_32 : decode cX5_pairsAlike 32 = .ok (.invokevirtual 85, 3) := by decide +kernel
theorem dX5_pairsAlike_35 : decode cX5_pairsAlike 35 = .ok (.if_icmp .ne 7, 3) := by decide +kernel
theorem dX5_pairsAlike_38 : decode cX5_pairsAlike 38 = .ok (.iconst 1, 1) := by decide +kernel
theorem dX5_pairsAlike_39 : decode cX5_pairsAlike 39 = .ok (.goto 4, 3) := by decide +kernel
theorem dX5_pairsAlike_42 : decode cX5_pairsAlike 42 = .ok (.iconst 0, 1) := by decide +kernel
theorem dX5_pairsAlike_43 : decode cX5_pairsAlike 43 = .ok (.iadd, 1) := by decide +kernel
theorem dX5_pairsAlike_44 : decode cX5_pairsAlike 44 = .ok (.istore_n 1, 1) := by decide +kernel
theorem dX5_pairsAlike_45 : decode cX5_pairsAlike 45 = .ok (.iinc 3 1, 3) := by decide +kernel
theorem dX5_pairsAlike_48 : decode cX5_pairsAlike 48 = .ok (.goto (-32), 3) := by decide +kernel
theorem dX5_pairsAlike_51 : decode cX5_pairsAlike 51 = .ok (.iinc 2 1, 3) := by decide +kernel
theorem dX5_pairsAlike_54 : decode cX5_pairsAlike 54 = .ok (.goto (-50), 3) := by decide +kernel
theorem dX5_pairsAlike_57 : decode cX5_pairsAlike 57 = .ok (.iload_n 1, 1) := by decide +kernel
theorem dX5_pairsAlike_58 : decode cX5_pairsAlike 58 = .ok (.ireturn, 1) := by decide +kernel
theorem dX5_alike_0 : decode cX5_alike 0 = .ok (.iload_n 1, 1) := by decide +kernel
theorem dX5_alike_1 : decode cX5_alike 1 = .ok (.iconst 0, 1) := by decide +kernel
theorem dX5_alike_2 : decode cX5_alike 2 = .ok (.iconst 1, 1) := by decide +kernel
theorem dX5_alike_3 : decode cX5_alike 3 = .ok (.invokestatic 81, 3) := by decide +kernel
theorem dX5_alike_6 : decode cX5_alike 6 = .ok (.ifCond .ne 5, 3) := by decide +kernel
theorem dX5_alike_9 : decode cX5_alike 9 = .ok (.iconst (-1), 1) := by decide +kernel
theorem dX5_alike_10 : decode cX5_alike 10 = .ok (.ireturn, 1) := by decide +kernel
theorem dX5_alike_11 : decode cX5_alike 11 = .ok (.bipush (-4), 2) := by decide +kernel
theorem dX5_alike_13 : decode cX5_alike 13 = .ok (.istore_n 2, 1) := by decide +kernel
theorem dX5_alike_14 : decode cX5_alike 14 = .ok (.aload_n 0, 1) := by decide +kernel
theorem dX5_alike_15 : decode cX5_alike 15 = .ok (.getfield 78, 3) := by decide +kernel
theorem dX5_alike_18 : decode cX5_alike 18 = .ok (.iconst 1, 1) := by decide +kernel
theorem dX5_alike_19 : decode cX5_alike 19 = .ok (.isub, 1) := by decide +kernel
theorem dX5_alike_20 : decode cX5_alike 20 = .ok (.istore_n 3, 1) := by decide +kernel
theorem dX5_alike_21 : decode cX5_alike 21 = .ok (.iload_n 3, 1) := by decide +kernel
theorem dX5_alike_22 : decode cX5_alike 22 = .ok (.ifCond .lt 55, 3) := by decide +kernel
theorem dX5_alike_25 : decode cX5_alike 25 = .ok (.aload_n 0, 1) := by decide +kernel
theorem dX5_alike_26 : decode cX5_alike 26 = .ok (.getfield 78, 3) := by decide +kernel
theorem dX5_alike_29 : decode cX5_alike 29 = .ok (.iconst 1, 1) := by decide +kernel
theorem dX5_alike_30 : decode cX5_alike 30 = .ok (.isub, 1) := by decide +kernel
theorem dX5_alike_31 : decode cX5_alike 31 = .ok (.istore 4, 2) := by decide +kernel
theorem dX5_alike_33 : decode cX5_alike 33 = .ok (.iload 4, 2) := by decide +kernel
theorem dX5_alike_35 : decode cX5_alike 35 = .ok (.iload_n 3, 1) := by decide +kernel
theorem dX5_alike_36 : decode cX5_alike 36 = .ok (.if_icmp .le 35, 3) := by decide +kernel
theorem dX5_alike_39 : decode cX5_alike 39 = .ok (.aload_n 0, 1) := by decide +kernel
theorem dX5_alike_40 : decode cX5_alike 40 = .ok (.iload_n 3, 1) := by decide +kernel
theorem dX5_alike_41 : decode cX5_alike 41 = .ok (.invokevirtual 85, 3) := by decide +kernel
theorem dX5_alike_44 : decode cX5_alike 44 = .ok (.aload_n 0, 1) := by decide +kernel
theorem dX5_alike_45 : decode cX5_alike 45 = .ok (.iload 4, 2) := by decide +kernel
theorem dX5_alike_47 : decode cX5_alike 47 = .ok (.invokevirtual 85, 3) := by decide +kernel
theorem dX5_alike_50 : decode cX5_alike 50 = .ok (.if_icmp .ne 13, 3) := by decide +kernel
theorem dX5_alike_53 : decode cX5_alike 53 = .ok (.bipush 10, 2) := by decide +kernel
theorem dX5_alike_55 : decode cX5_alike 55 = .ok (.iload_n 3, 1) := by decide +kernel
theorem dX5_alike_56 : decode cX5_alike 56 = .ok (.imul, 1) := by decide +kernel
theorem dX5_alike_57 : decode cX5_alike 57 = .ok (.iload 4, 2) := by decide +kernel
theorem dX5_alike_59 : decode cX5_alike 59 = .ok (.iadd, 1) := by decide +kernel
theorem dX5_alike_60 : decode cX5_alike 60 = .ok (.goto 4, 3) := by decide +kernel
theorem dX5_alike_63 : decode cX5_alike 63 = .ok (.iload_n 2, 1) := by decide +kernel
theorem dX5_alike_64 : decode cX5_alike 64 = .ok (.istore_n 2, 1) := by decide +kernel
theorem dX5_alike_65 : decode cX5_alike 65 = .ok (.iinc 4 (-1), 3) := by decide +kernel
theorem dX5_alike_68 : decode cX5_alike 68 = .ok (.goto (-35), 3) := by decide +kernel
theorem dX5_alike_71 : decode cX5_alike 71 = .ok (.iinc 3 (-1), 3) := by decide +kernel
theorem dX5_alike_74 : decode cX5_alike 74 = .ok (.goto (-53), 3) := by decide +kernel
theorem dX5_alike_77 : decode cX5_alike 77 = .ok (.iload_n 1, 1) := by decide +kernel
theorem dX5_alike_78 : decode cX5_alike 78 = .ok (.ifCond .ne 10, 3) := by decide +kernel
theorem dX5_alike_81 : decode cX5_alike 81 = .ok (.aload_n 0, 1) := by decide +kernel
theorem dX5_alike_82 : decode cX5_alike 82 = .ok (.invokevirtual 196, 3) := by decide +kernel
theorem dX5_alike_85 : decode cX5_alike 85 = .ok (.goto 4, 3) := by decide +kernel
theorem dX5_alike_88 : decode cX5_alike 88 = .ok (.iload_n 2, 1) := by decide +kernel
theorem dX5_alike_89 : decode cX5_alike 89 = .ok (.ireturn, 1) := by decide +kernel
theorem dX5_knownBy_0 : decode cX5_knownBy 0 = .ok (.iconst 0, 1) := by decide +kernel
theorem dX5_knownBy_1 : decode cX5_knownBy 1 = .ok (.istore_n 2, 1) := by decide +kernel
theorem dX5_knownBy_2 : decode cX5_knownBy 2 = .ok (.iload_n 2, 1) := by decide +kernel
theorem dX5_knownBy_3 : decode cX5_knownBy 3 = .ok (.aload_n 0, 1) := by decide +kernel
theorem dX5_knownBy_4 : decode cX5_knownBy 4 = .ok (.getfield 78, 3) := by decide +kernel
theorem dX5_knownBy_7 : decode cX5_knownBy 7 = .ok (.if_icmp .ge 23, 3) := by decide +kernel
theorem dX5_knownBy_10 : decode cX5_knownBy 10 = .ok (.aload_n 0, 1) := by decide +kernel
theorem dX5_knownBy_11 : decode cX5_knownBy 11 = .ok (.iload_n 2, 1) := by decide +kernel
theorem dX5_knownBy_12 : decode cX5_knownBy 12 = .ok (.invokevirtual 85, 3) := by decide +kernel
theorem dX5_knownBy_15 : decode cX5_knownBy 15 = .ok (.aload_n 0, 1) := by decide +kernel
theorem dX5_knownBy_16 : decode cX5_knownBy 16 = .ok (.getfield 25, 3) := by decide +kernel
theorem dX5_knownBy_19 : decode cX5_knownBy 19 = .ok (.iload_n 1, 1) := by decide +kernel
theorem dX5_knownBy_20 : decode cX5_knownBy 20 = .ok (.iaload, 1) := by decide +kernel
theorem dX5_knownBy_21 : decode cX5_knownBy 21 = .ok (.if_icmp .eq 9, 3) := by decide +kernel
theorem dX5_knownBy_24 : decode cX5_knownBy 24 = .ok (.iinc 2 1, 3) := by decide +kernel
theorem dX5_knownBy_27 : decode cX5_knownBy 27 = .ok (.goto (-25), 3) := by decide +kernel
theorem dX5_knownBy_30 : decode cX5_knownBy 30 = .ok (.iload_n 2, 1) := by decide +kernel
theorem dX5_knownBy_31 : decode cX5_knownBy 31 = .ok (.aload_n 0, 1) := by decide +kernel
theorem dX5_knownBy_32 : decode cX5_knownBy 32 = .ok (.getfield 78, 3) := by decide +kernel
theorem dX5_knownBy_35 : decode cX5_knownBy 35 = .ok (.if_icmp .ge 7, 3) := by decide +kernel
theorem dX5_knownBy_38 : decode cX5_knownBy 38 = .ok (.iload_n 2, 1) := by decide +kernel
theorem dX5_knownBy_39 : decode cX5_knownBy 39 = .ok (.goto 5, 3) := by decide +kernel
theorem dX5_knownBy_42 : decode cX5_knownBy 42 = .ok (.bipush (-4), 2) := by decide +kernel
theorem dX5_knownBy_44 : decode cX5_knownBy 44 = .ok (.ireturn, 1) := by decide +kernel
theorem dX5_known_0 : decode cX5_known 0 = .ok (.aload_n 0, 1) := by decide +kernel
theorem dX5_known_1 : decode cX5_known 1 = .ok (.iload_n 1, 1) := by decide +kernel
theorem dX5_known_2 : decode cX5_known 2 = .ok (.invokevirtual 163, 3) := by decide +kernel
theorem dX5_known_5 : decode cX5_known 5 = .ok (.ifCond .eq 11, 3) := by decide +kernel
theorem dX5_known_8 : decode cX5_known 8 = .ok (.aload_n 0, 1) := by decide +kernel
theorem dX5_known_9 : decode cX5_known 9 = .ok (.iload_n 1, 1) := by decide +kernel
theorem dX5_known_10 : decode cX5_known 10 = .ok (.invokevirtual 199, 3) := by decide +kernel
theorem dX5_known_13 : decode cX5_known 13 = .ok (.goto 4, 3) := by decide +kernel
theorem dX5_known_16 : decode cX5_known 16 = .ok (.iconst (-1), 1) := by decide +kernel
theorem dX5_known_17 : decode cX5_known 17 = .ok (.ireturn, 1) := by decide +kernel
theorem dX5_behind_0 : decode cX5_behind 0 = .ok (.iload_n 1, 1) := by decide +kernel
theorem dX5_behind_1 : decode cX5_behind 1 = .ok (.iconst 0, 1) := by decide +kernel
theorem dX5_behind_2 : decode cX5_behind 2 = .ok (.bipush 20, 2) := by decide +kernel
theorem dX5_behind_4 : decode cX5_behind 4 = .ok (.invokestatic 81, 3) := by decide +kernel
theorem dX5_behind_7 : decode cX5_behind 7 = .ok (.ifCond .eq 11, 3) := by decide +kernel
theorem dX5_behind_10 : decode cX5_behind 10 = .ok (.aload_n 0, 1) := by decide +kernel
theorem dX5_behind_11 : decode cX5_behind 11 = .ok (.iload_n 2, 1) := by decide +kernel
theorem dX5_behind_12 : decode cX5_behind 12 = .ok (.invokevirtual 163, 3) := by decide +kernel
theorem dX5_behind_15 : decode cX5_behind 15 = .ok (.ifCond .ne 5, 3) := by decide +kernel
theorem dX5_behind_18 : decode cX5_behind 18 = .ok (.iconst (-1), 1) := by decide +kernel
theorem dX5_behind_19 : decode cX5_behind 19 = .ok (.ireturn, 1) := by decide +kernel
theorem dX5_behind_20 : decode cX5_behind 20 = .ok (.aload_n 0, 1) := by decide +kernel
theorem dX5_behind_21 : decode cX5_behind 21 = .ok (.invokevirtual 202, 3) := by decide +kernel
theorem dX5_behind_24 : decode cX5_behind 24 = .ok (.aload_n 0, 1) := by decide +kernel
theorem dX5_behind_25 : decode cX5_behind 25 = .ok (.iload_n 1, 1) := by decide +kernel
theorem dX5_behind_26 : decode cX5_behind 26 = .ok (.invokevirtual 190, 3) := by decide +kernel
theorem dX5_behind_29 : decode cX5_behind 29 = .ok (.aload_n 0, 1) := by decide +kernel
theorem dX5_behind_30 : decode cX5_behind 30 = .ok (.iload_n 2, 1) := by decide +kernel
theorem dX5_behind_31 : decode cX5_behind 31 = .ok (.invokevirtual 85, 3) := by decide +kernel
theorem dX5_behind_34 : decode cX5_behind 34 = .ok (.istore_n 3, 1) := by decide +kernel
theorem dX5_behind_35 : decode cX5_behind 35 = .ok (.aload_n 0, 1) := by decide +kernel
theorem dX5_behind_36 : decode cX5_behind 36 = .ok (.invokevirtual 205, 3) := by decide +kernel
theorem dX5_behind_39 : decode cX5_behind 39 = .ok (.iload_n 3, 1) := by decide +kernel
theorem dX5_behind_40 : decode cX5_behind 40 = .ok (.ireturn, 1) := by decide +kernel
theorem dX5_goes_0 : decode cX5_goes 0 = .ok (.aload_n 0, 1) := by decide +kernel
theorem dX5_goes_1 : decode cX5_goes 1 = .ok (.iload_n 1, 1) := by decide +kernel
theorem dX5_goes_2 : decode cX5_goes 2 = .ok (.invokevirtual 163, 3) := by decide +kernel
theorem dX5_goes_5 : decode cX5_goes 5 = .ok (.ifCond .eq 10, 3) := by decide +kernel
theorem dX5_goes_8 : decode cX5_goes 8 = .ok (.iload_n 2, 1) := by decide +kernel
theorem dX5_goes_9 : decode cX5_goes 9 = .ok (.invokestatic 170, 3) := by decide +kernel
theorem dX5_goes_12 : decode cX5_goes 12 = .ok (.ifCond .ne 5, 3) := by decide +kernel
theorem dX5_goes_15 : decode cX5_goes 15 = .ok (.iconst (-1), 1) := by decide +kernel
theorem dX5_goes_16 : decode cX5_goes 16 = .ok (.ireturn, 1) := by decide +kernel
theorem dX5_goes_17 : decode cX5_goes 17 = .ok (.iconst 5, 1) := by decide +kernel
theorem dX5_goes_18 : decode cX5_goes 18 = .ok (.iload_n 1, 1) := by decide +kernel
theorem dX5_goes_19 : decode cX5_goes 19 = .ok (.imul, 1) := by decide +kernel
theorem dX5_goes_20 : decode cX5_goes 20 = .ok (.iload_n 2, 1) := by decide +kernel
theorem dX5_goes_21 : decode cX5_goes 21 = .ok (.iadd, 1) := by decide +kernel
theorem dX5_goes_22 : decode cX5_goes 22 = .ok (.istore_n 3, 1) := by decide +kernel
theorem dX5_goes_23 : decode cX5_goes 23 = .ok (.aload_n 0, 1) := by decide +kernel
theorem dX5_goes_24 : decode cX5_goes 24 = .ok (.getfield 19, 3) := by decide +kernel
theorem dX5_goes_27 : decode cX5_goes 27 = .ok (.iload_n 3, 1) := by decide +kernel
theorem dX5_goes_28 : decode cX5_goes 28 = .ok (.iaload, 1) := by decide +kernel
theorem dX5_goes_29 : decode cX5_goes 29 = .ok (.ifCond .ne 6, 3) := by decide +kernel
theorem dX5_goes_32 : decode cX5_goes 32 = .ok (.bipush (-2), 2) := by decide +kernel
theorem dX5_goes_34 : decode cX5_goes 34 = .ok (.ireturn, 1) := by decide +kernel
theorem dX5_goes_35 : decode cX5_goes 35 = .ok (.aload_n 0, 1) := by decide +kernel
theorem dX5_goes_36 : decode cX5_goes 36 = .ok (.invokevirtual 202, 3) := by decide +kernel
theorem dX5_goes_39 : decode cX5_goes 39 = .ok (.iconst 0, 1) := by decide +kernel
theorem dX5_goes_40 : decode cX5_goes 40 = .ok (.istore 4, 2) := by decide +kernel
theorem dX5_goes_42 : decode cX5_goes 42 = .ok (.iload 4, 2) := by decide +kernel
theorem dX5_goes_44 : decode cX5_goes 44 = .ok (.bipush 60, 2) := by decide +kernel
theorem dX5_goes_46 : decode cX5_goes 46 = .ok (.if_icmp .ge 23, 3) := by decide +kernel
theorem dX5_goes_49 : decode cX5_goes 49 = .ok (.aload_n 0, 1) := by decide +kernel
theorem dX5_goes_50 : decode cX5_goes 50 = .ok (.getfield 19, 3) := by decide +kernel
theorem dX5_goes_53 : decode cX5_goes 53 = .ok (.iload_n 3, 1) := by decide +kernel
theorem dX5_goes_54 : decode cX5_goes 54 = .ok (.iaload, 1) := by decide +kernel
theorem dX5_goes_55 : decode cX5_goes 55 = .ok (.ifCond .le 14, 3) := by decide +kernel
theorem dX5_goes_58 : decode cX5_goes 58 = .ok (.aload_n 0, 1) := by decide +kernel
theorem dX5_goes_59 : decode cX5_goes 59 = .ok (.iconst 1, 1) := by decide +kernel
theorem dX5_goes_60 : decode cX5_goes 60 = .ok (.invokevirtual 190, 3) := by decide +kernel
theorem dX5_goes_63 : decode cX5_goes 63 = .ok (.iinc 4 1, 3) := by decide +kernel
theorem dX5_goes_66 : decode cX5_goes 66 = .ok (.goto (-24), 3) := by decide +kernel
theorem dX5_goes_69 : decode cX5_goes 69 = .ok (.aload_n 0, 1) := by decide +kernel
theorem dX5_goes_70 : decode cX5_goes 70 = .ok (.getfield 19, 3) := by decide +kernel
theorem dX5_goes_73 : decode cX5_goes 73 = .ok (.iload_n 3, 1) := by decide +kernel
theorem dX5_goes_74 : decode cX5_goes 74 = .ok (.iaload, 1) := by decide +kernel
theorem dX5_goes_75 : decode cX5_goes 75 = .ok (.ifCond .ne 7, 3) := by decide +kernel
theorem dX5_goes_78 : decode cX5_goes 78 = .ok (.iconst 1, 1) := by decide +kernel
theorem dX5_goes_79 : decode cX5_goes 79 = .ok (.goto 4, 3) := by decide +kernel
theorem dX5_goes_82 : decode cX5_goes 82 = .ok (.iconst 0, 1) := by decide +kernel
theorem dX5_goes_83 : decode cX5_goes 83 = .ok (.istore 5, 2) := by decide +kernel
theorem dX5_goes_85 : decode cX5_goes 85 = .ok (.aload_n 0, 1) := by decide +kernel
theorem dX5_goes_86 : decode cX5_goes 86 = .ok (.invokevirtual 205, 3) := by decide +kernel
theorem dX5_goes_89 : decode cX5_goes 89 = .ok (.iload 5, 2) := by decide +kernel
theorem dX5_goes_91 : decode cX5_goes 91 = .ok (.ifCond .eq 8, 3) := by decide +kernel
theorem dX5_goes_94 : decode cX5_goes 94 = .ok (.iload 4, 2) := by decide +kernel
theorem dX5_goes_96 : decode cX5_goes 96 = .ok (.goto 5, 3) := by decide +kernel
theorem dX5_goes_99 : decode cX5_goes 99 = .ok (.bipush (-4), 2) := by decide +kernel
theorem dX5_goes_101 : decode cX5_goes 101 = .ok (.ireturn, 1) := by decide +kernel
theorem dX5_needed_0 : decode cX5_needed 0 = .ok (.iconst 0, 1) := by decide +kernel
theorem dX5_needed_1 : decode cX5_needed 1 = .ok (.istore 4, 2) := by decide +kernel
theorem dX5_needed_3 : decode cX5_needed 3 = .ok (.iconst 0, 1) := by decide +kernel
theorem dX5_needed_4 : decode cX5_needed 4 = .ok (.istore 5, 2) := by decide +kernel
theorem dX5_needed_6 : decode cX5_needed 6 = .ok (.iload 5, 2) := by decide +kernel
theorem dX5_needed_8 : decode cX5_needed 8 = .ok (.iload_n 3, 1) := by decide +kernel
theorem dX5_needed_9 : decode cX5_needed 9 = .ok (.if_icmp .ge 56, 3) := by decide +kernel
theorem dX5_needed_12 : decode cX5_needed 12 = .ok (.aload_n 0, 1) := by decide +kernel
theorem dX5_needed_13 : decode cX5_needed 13 = .ok (.iload_n 1, 1) := by decide +kernel
theorem dX5_needed_14 : decode cX5_needed 14 = .ok (.aload_n 0, 1) := by decide +kernel
theorem dX5_needed_15 : decode cX5_needed 15 = .ok (.aload_n 0, 1) := by decide +kernel
theorem dX5_needed_16 : decode cX5_needed 16 = .ok (.getfield 133, 3) := by decide +kernel
theorem dX5_needed_19 : decode cX5_needed 19 = .ok (.iload 5, 2) := by decide +kernel
theorem dX5_needed_21 : decode cX5_needed 21 = .ok (.iadd, 1) := by decide +kernel
theorem dX5_needed_22 : decode cX5_needed 22 = .ok (.invokevirtual 156, 3) := by decide +kernel
theorem dX5_needed_25 : decode cX5_needed 25 = .ok (.invokevirtual 153, 3) := by decide +kernel
theorem dX5_needed_28 : decode cX5_needed 28 = .ok (.istore 6, 2) := by decide +kernel
theorem dX5_needed_30 : decode cX5_needed 30 = .ok (.iload 4, 2) := by decide +kernel
theorem dX5_needed_32 : decode cX5_needed 32 = .ok (.iload 6, 2) := by decide +kernel
theorem dX5_needed_34 : decode cX5_needed 34 = .ok (.iload_n 2, 1) := by decide +kernel
theorem dX5_needed_35 : decode cX5_needed 35 = .ok (.iload 5, 2) := by decide +kernel
theorem dX5_needed_37 : decode cX5_needed 37 = .ok (.imul, 1) := by decide +kernel
theorem dX5_needed_38 : decode cX5_needed 38 = .ok (.iadd, 1) := by decide +kernel
theorem dX5_needed_39 : decode cX5_needed 39 = .ok (.invokestatic 145, 3) := by decide +kernel
theorem dX5_needed_42 : decode cX5_needed 42 = .ok (.istore 4, 2) := by decide +kernel
theorem dX5_needed_44 : decode cX5_needed 44 = .ok (.iload 4, 2) := by decide +kernel
theorem dX5_needed_46 : decode cX5_needed 46 = .ok (.iload_n 2, 1) := by decide +kernel
theorem dX5_needed_47 : decode cX5_needed 47 = .ok (.iload 5, 2) := by decide +kernel
theorem dX5_needed_49 : decode cX5_needed 49 = .ok (.imul, 1) := by decide +kernel
theorem dX5_needed_50 : decode cX5_needed 50 = .ok (.iload_n 2, 1) := by decide +kernel
theorem dX5_needed_51 : decode cX5_needed 51 = .ok (.iadd, 1) := by decide +kernel
theorem dX5_needed_52 : decode cX5_needed 52 = .ok (.iconst 1, 1) := by decide +kernel
theorem dX5_needed_53 : decode cX5_needed 53 = .ok (.iadd, 1) := by decide +kernel
theorem dX5_needed_54 : decode cX5_needed 54 = .ok (.invokestatic 145, 3) := by decide +kernel
theorem dX5_needed_57 : decode cX5_needed 57 = .ok (.istore 4, 2) := by decide +kernel
theorem dX5_needed_59 : decode cX5_needed 59 = .ok (.iinc 5 1, 3) := by decide +kernel
theorem dX5_needed_62 : decode cX5_needed 62 = .ok (.goto (-56), 3) := by decide +kernel
theorem dX5_needed_65 : decode cX5_needed 65 = .ok (.iload 4, 2) := by decide +kernel
theorem dX5_needed_67 : decode cX5_needed 67 = .ok (.ireturn, 1) := by decide +kernel
theorem dX5_hold_0 : decode cX5_hold 0 = .ok (.iload_n 1, 1) := by decide +kernel
theorem dX5_hold_1 : decode cX5_hold 1 = .ok (.iconst 1, 1) := by decide +kernel
theorem dX5_hold_2 : decode cX5_hold 2 = .ok (.bipush 20, 2) := by decide +kernel
theorem dX5_hold_4 : decode cX5_hold 4 = .ok (.invokestatic 81, 3) := by decide +kernel
theorem dX5_hold_7 : decode cX5_hold 7 = .ok (.ifCond .ne 5, 3) := by decide +kernel
theorem dX5_hold_10 : decode cX5_hold 10 = .ok (.iconst (-1), 1) := by decide +kernel
theorem dX5_hold_11 : decode cX5_hold 11 = .ok (.ireturn, 1) := by decide +kernel
theorem dX5_hold_12 : decode cX5_hold 12 = .ok (.iconst 0, 1) := by decide +kernel
theorem dX5_hold_13 : decode cX5_hold 13 = .ok (.istore_n 2, 1) := by decide +kernel
theorem dX5_hold_14 : decode cX5_hold 14 = .ok (.iconst 0, 1) := by decide +kernel
theorem dX5_hold_15 : decode cX5_hold 15 = .ok (.istore_n 3, 1) := by decide +kernel
theorem dX5_hold_16 : decode cX5_hold 16 = .ok (.iload_n 3, 1) := by decide +kernel
theorem dX5_hold_17 : decode cX5_hold 17 = .ok (.aload_n 0, 1) := by decide +kernel
theorem dX5_hold_18 : decode cX5_hold 18 = .ok (.getfield 78, 3) := by decide +kernel
theorem dX5_hold_21 : decode cX5_hold 21 = .ok (.if_icmp .ge 88, 3) := by decide +kernel
theorem dX5_hold_24 : decode cX5_hold 24 = .ok (.iconst 1, 1) := by decide +kernel
theorem dX5_hold_25 : decode cX5_hold 25 = .ok (.istore 4, 2) := by decide +kernel
theorem dX5_hold_27 : decode cX5_hold 27 = .ok (.iconst 0, 1) := by decide +kernel
theorem dX5_hold_28 : decode cX5_hold 28 = .ok (.istore 5, 2) := by decide +kernel
theorem dX5_hold_30 : decode cX5_hold 30 = .ok (.iload 5, 2) := by decide +kernel
theorem dX5_hold_32 : decode cX5_hold 32 = .ok (.iconst 5, 1) := by decide +kernel
theorem dX5_hold_33 : decode cX5_hold 33 = .ok (.if_icmp .ge 70, 3) := by decide +kernel
theorem dX5_hold_36 : decode cX5_hold 36 = .ok (.aload_n 0, 1) := by decide +kernel
theorem dX5_hold_37 : decode cX5_hold 37 = .ok (.getfield 19, 3) := by decide +kernel
theorem dX5_hold_40 : decode cX5_hold 40 = .ok (.iconst 5, 1) := by decide +kernel
theorem dX5_hold_41 : decode cX5_hold 41 = .ok (.iload_n 3, 1) := by decide +kernel
theorem dX5_hold_42 : decode cX5_hold 42 = .ok (.imul, 1) := by decide +kernel
theorem dX5_hold_43 : decode cX5_hold 43 = .ok (.iload 5, 2) := by decide +kernel
theorem dX5_hold_45 : decode cX5_hold 45 = .ok (.iadd, 1) := by decide +kernel
theorem dX5_hold_46 : decode cX5_hold 46 = .ok (.iaload, 1) := by decide +kernel
theorem dX5_hold_47 : decode cX5_hold 47 = .ok (.istore 6, 2) := by decide +kernel
theorem dX5_hold_49 : decode cX5_hold 49 = .ok (.iload 6, 2) := by decide +kernel
theorem dX5_hold_51 : decode cX5_hold 51 = .ok (.ifCond .le 46, 3) := by decide +kernel
theorem dX5_hold_54 : decode cX5_hold 54 = .ok (.aload_n 0, 1) := by decide +kernel
theorem dX5_hold_55 : decode cX5_hold 55 = .ok (.getfield 9, 3) := by decide +kernel
theorem dX5_hold_58 : decode cX5_hold 58 = .ok (.iload_n 3, 1) := by decide +kernel
theorem dX5_hold_59 : decode cX5_hold 59 = .ok (.iaload, 1) := by decide +kernel
theorem dX5_hold_60 : decode cX5_hold 60 = .ok (.iconst 3, 1) := by decide +kernel
theorem dX5_hold_61 : decode cX5_hold 61 = .ok (.if_icmp .ne 12, 3) := by decide +kernel
theorem dX5_hold_64 : decode cX5_hold 64 = .ok (.iload 4, 2) := by decide +kernel
theorem dX5_hold_66 : decode cX5_hold 66 = .ok (.ifCond .eq 7, 3) := by decide +kernel
theorem dX5_hold_69 : decode cX5_hold 69 = .ok (.iconst 2, 1) := by decide +kernel
theorem dX5_hold_70 : decode cX5_hold 70 = .ok (.goto 4, 3) := by decide +kernel
theorem dX5_hold_73 : decode cX5_hold 73 = .ok (.iconst 1, 1) := by decide +kernel
theorem dX5_hold_74 : decode cX5_hold 74 = .ok (.istore 7, 2) := by decide +kernel
theorem dX5_hold_76 : decode cX5_hold 76 = .ok (.iload_n 2, 1) := by decide +kernel
theorem dX5_hold_77 : decode cX5_hold 77 = .ok (.iconst 0, 1) := by decide +kernel
theorem dX5_hold_78 : decode cX5_hold 78 = .ok (.aload_n 0, 1) := by decide +kernel
theorem dX5_hold_79 : decode cX5_hold 79 = .ok (.iload_n 3, 1) := by decide +kernel
theorem dX5_hold_80 : decode cX5_hold 80 = .ok (.iload 7, 2) := by decide +kernel
theorem dX5_hold_82 : decode cX5_hold 82 = .ok (.iload_n 1, 1) := by decide +kernel
theorem dX5_hold_83 : decode cX5_hold 83 = .ok (.invokevirtual 208, 3) := by decide +kernel
theorem dX5_hold_86 : decode cX5_hold 86 = .ok (.iload 6, 2) := by decide +kernel
theorem dX5_hold_88 : decode cX5_hold 88 = .ok (.isub, 1) := by decide +kernel
theorem dX5_hold_89 : decode cX5_hold 89 = .ok (.invokestatic 145, 3) := by decide +kernel
theorem dX5_hold_92 : decode cX5_hold 92 = .ok (.iadd, 1) := by decide +kernel
theorem dX5_hold_93 : decode cX5_hold 93 = .ok (.istore_n 2, 1) := by decide +kernel
theorem dX5_hold_94 : decode cX5_hold 94 = .ok (.iconst 0, 1) := by decide +kernel
theorem dX5_hold_95 : decode cX5_hold 95 = .ok (.istore 4, 2) := by decide +kernel
theorem dX5_hold_97 : decode cX5_hold 97 = .ok (.iinc 5 1, 3) := by decide +kernel
theorem dX5_hold_100 : decode cX5_hold 100 = .ok (.goto (-70), 3) := by decide +kernel
theorem dX5_hold_103 : decode cX5_hold 103 = .ok (.iinc 3 1, 3) := by decide +kernel
theorem dX5_hold_106 : decode cX5_hold 106 = .ok (.goto (-90), 3) := by decide +kernel
theorem dX5_hold_109 : decode cX5_hold 109 = .ok (.iload_n 2, 1) := by decide +kernel
theorem dX5_hold_110 : decode cX5_hold 110 = .ok (.ireturn, 1) := by decide +kernel
theorem dX5_tells_0 : decode cX5_tells 0 = .ok (.iconst 1, 1) := by decide +kernel
theorem dX5_tells_1 : decode cX5_tells 1 = .ok (.istore_n 2, 1) := by decide +kernel
theorem dX5_tells_2 : decode cX5_tells 2 = .ok (.iconst 0, 1) := by decide +kernel
theorem dX5_tells_3 : decode cX5_tells 3 = .ok (.istore_n 3, 1) := by decide +kernel
theorem dX5_tells_4 : decode cX5_tells 4 = .ok (.iload_n 3, 1) := by decide +kernel
theorem dX5_tells_5 : decode cX5_tells 5 = .ok (.aload_n 0, 1) := by decide +kernel
theorem dX5_tells_6 : decode cX5_tells 6 = .ok (.getfield 78, 3) := by decide +kernel
theorem dX5_tells_9 : decode cX5_tells 9 = .ok (.if_icmp .ge 57, 3) := by decide +kernel
theorem dX5_tells_12 : decode cX5_tells 12 = .ok (.iload_n 3, 1) := by decide +kernel
theorem dX5_tells_13 : decode cX5_tells 13 = .ok (.iconst 1, 1) := by decide +kernel
theorem dX5_tells_14 : decode cX5_tells 14 = .ok (.iadd, 1) := by decide +kernel
theorem dX5_tells_15 : decode cX5_tells 15 = .ok (.istore 4, 2) := by decide +kernel
theorem dX5_tells_17 : decode cX5_tells 17 = .ok (.iload 4, 2) := by decide +kernel
theorem dX5_tells_19 : decode cX5_tells 19 = .ok (.aload_n 0, 1) := by decide +kernel
theorem dX5_tells_20 : decode cX5_tells 20 = .ok (.getfield 78, 3) := by decide +kernel
theorem dX5_tells_23 : decode cX5_tells 23 = .ok (.if_icmp .ge 37, 3) := by decide +kernel
theorem dX5_tells_26 : decode cX5_tells 26 = .ok (.iload_n 2, 1) := by decide +kernel
theorem dX5_tells_27 : decode cX5_tells 27 = .ok (.ifCond .eq 25, 3) := by decide +kernel
theorem dX5_tells_30 : decode cX5_tells 30 = .ok (.aload_n 0, 1) := by decide +kernel
theorem dX5_tells_31 : decode cX5_tells 31 = .ok (.iload_n 3, 1) := by decide +kernel
theorem dX5_tells_32 : decode cX5_tells 32 = .ok (.invokevirtual 85, 3) := by decide +kernel
theorem dX5_tells_35 : decode cX5_tells 35 = .ok (.iload_n 1, 1) := by decide +kernel
theorem dX5_tells_36 : decode cX5_tells 36 = .ok (.iand, 1) := by decide +kernel
theorem dX5_tells_37 : decode cX5_tells 37 = .ok (.aload_n 0, 1) := by decide +kernel
theorem dX5_tells_38 : decode cX5_tells 38 = .ok (.iload 4, 2) := by decide +kernel
theorem dX5_tells_40 : decode cX5_tells 40 = .ok (.invokevirtual 85, 3) := by decide +kernel
theorem dX5_tells_43 : decode cX5_tells 43 = .ok (.iload_n 1, 1) := by decide +kernel
theorem dX5_tells_44 : decode cX5_tells 44 = .ok (.iand, 1) := by decide +kernel
theorem dX5_tells_45 : decode cX5_tells 45 = .ok (.if_icmp .eq 7, 3) := by decide +kernel
theorem dX5_tells_48 : decode cX5_tells 48 = .ok (.iconst 1, 1) := by decide +kernel
theorem dX5_tells_49 : decode cX5_tells 49 = .ok (.goto 4, 3) := by decide +kernel
theorem dX5_tells_52 : decode cX5_tells 52 = .ok (.iconst 0, 1) := by decide +kernel
theorem dX5_tells_53 : decode cX5_tells 53 = .ok (.istore_n 2, 1) := by decide +kernel
theorem dX5_tells_54 : decode cX5_tells 54 = .ok (.iinc 4 1, 3) := by decide +kernel
theorem dX5_tells_57 : decode cX5_tells 57 = .ok (.goto (-40), 3) := by decide +kernel
theorem dX5_tells_60 : decode cX5_tells 60 = .ok (.iinc 3 1, 3) := by decide +kernel
theorem dX5_tells_63 : decode cX5_tells 63 = .ok (.goto (-59), 3) := by decide +kernel
theorem dX5_tells_66 : decode cX5_tells 66 = .ok (.iload_n 2, 1) := by decide +kernel
theorem dX5_tells_67 : decode cX5_tells 67 = .ok (.ireturn, 1) := by decide +kernel
theorem dX5_tell_0 : decode cX5_tell 0 = .ok (.iload_n 1, 1) := by decide +kernel
theorem dX5_tell_1 : decode cX5_tell 1 = .ok (.iconst 0, 1) := by decide +kernel
theorem dX5_tell_2 : decode cX5_tell 2 = .ok (.iconst 1, 1) := by decide +kernel
theorem dX5_tell_3 : decode cX5_tell 3 = .ok (.invokestatic 81, 3) := by decide +kernel
theorem dX5_tell_6 : decode cX5_tell 6 = .ok (.ifCond .ne 5, 3) := by decide +kernel
theorem dX5_tell_9 : decode cX5_tell 9 = .ok (.iconst (-1), 1) := by decide +kernel
theorem dX5_tell_10 : decode cX5_tell 10 = .ok (.ireturn, 1) := by decide +kernel
theorem dX5_tell_11 : decode cX5_tell 11 = .ok (.bipush (-4), 2) := by decide +kernel
theorem dX5_tell_13 : decode cX5_tell 13 = .ok (.istore_n 2, 1) := by decide +kernel
theorem dX5_tell_14 : decode cX5_tell 14 = .ok (.ldc 212, 2) := by decide +kernel
theorem dX5_tell_16 : decode cX5_tell 16 = .ok (.istore_n 3, 1) := by decide +kernel
theorem dX5_tell_17 : decode cX5_tell 17 = .ok (.iconst 0, 1) := by decide +kernel
theorem dX5_tell_18 : decode cX5_tell 18 = .ok (.istore 4, 2) := by decide +kernel
theorem dX5_tell_20 : decode cX5_tell 20 = .ok (.iload 4, 2) := by decide +kernel
theorem dX5_tell_22 : decode cX5_tell 22 = .ok (.bipush 32, 2) := by decide +kernel
theorem dX5_tell_24 : decode cX5_tell 24 = .ok (.if_icmp .ge 36, 3) := by decide +kernel
theorem dX5_tell_27 : decode cX5_tell 27 = .ok (.iload 4, 2) := by decide +kernel
theorem dX5_tell_29 : decode cX5_tell 29 = .ok (.invokestatic 213, 3) := by decide +kernel
theorem dX5_tell_32 : decode cX5_tell 32 = .ok (.iload_n 3, 1) := by decide +kernel
theorem dX5_tell_33 : decode cX5_tell 33 = .ok (.if_icmp .ge 21, 3) := by decide +kernel
theorem dX5_tell_36 : decode cX5_tell 36 = .ok (.aload_n 0, 1) := by decide +kernel
theorem dX5_tell_37 : decode cX5_tell 37 = .ok (.iload 4, 2) := by decide +kernel
theorem dX5_tell_39 : decode cX5_tell 39 = .ok (.invokevirtual 216, 3) := by decide +kernel
theorem dX5_tell_42 : decode cX5_tell 42 = .ok (.ifCond .eq 12, 3) := by decide +kernel
theorem dX5_tell_45 : decode cX5_tell 45 = .ok (.iload 4, 2) := by decide +kernel
theorem dX5_tell_47 : decode cX5_tell 47 = .ok (.istore_n 2, 1) := by decide +kernel
theorem dX5_tell_48 : decode cX5_tell 48 = .ok (.iload 4, 2) := by decide +kernel
theorem dX5_tell_50 : decode cX5_tell 50 = .ok (.invokestatic 213, 3) := by decide +kernel
theorem dX5_tell_53 : decode cX5_tell 53 = .ok (.istore_n 3, 1) := by decide +kernel
theorem dX5_tell_54 : decode cX5_tell 54 = .ok (.iinc 4 1, 3) := by decide +kernel
theorem dX5_tell_57 : decode cX5_tell 57 = .ok (.goto (-37), 3) := by decide +kernel
theorem dX5_tell_60 : decode cX5_tell 60 = .ok (.iload_n 2, 1) := by decide +kernel
theorem dX5_tell_61 : decode cX5_tell 61 = .ok (.bipush (-4), 2) := by decide +kernel
theorem dX5_tell_63 : decode cX5_tell 63 = .ok (.if_icmp .eq 8, 3) := by decide +kernel
theorem dX5_tell_66 : decode cX5_tell 66 = .ok (.iload_n 1, 1) := by decide +kernel
theorem dX5_tell_67 : decode cX5_tell 67 = .ok (.iconst 1, 1) := by decide +kernel
theorem dX5_tell_68 : decode cX5_tell 68 = .ok (.if_icmp .ne 7, 3) := by decide +kernel
theorem dX5_tell_71 : decode cX5_tell 71 = .ok (.iload_n 2, 1) := by decide +kernel
theorem dX5_tell_72 : decode cX5_tell 72 = .ok (.goto 4, 3) := by decide +kernel
theorem dX5_tell_75 : decode cX5_tell 75 = .ok (.iload_n 3, 1) := by decide +kernel
theorem dX5_tell_76 : decode cX5_tell 76 = .ok (.ireturn, 1) := by decide +kernel
theorem dX5_adds_0 : decode cX5_adds 0 = .ok (.aload_n 0, 1) := by decide +kernel
theorem dX5_adds_1 : decode cX5_adds 1 = .ok (.getfield 58, 3) := by decide +kernel
theorem dX5_adds_4 : decode cX5_adds 4 = .ok (.iconst 0, 1) := by decide +kernel
theorem dX5_adds_5 : decode cX5_adds 5 = .ok (.bipush (-4), 2) := by decide +kernel
theorem dX5_adds_7 : decode cX5_adds 7 = .ok (.iastore, 1) := by decide +kernel
theorem dX5_adds_8 : decode cX5_adds 8 = .ok (.aload_n 0, 1) := by decide +kernel
theorem dX5_adds_9 : decode cX5_adds 9 = .ok (.getfield 58, 3) := by decide +kernel
theorem dX5_adds_12 : decode cX5_adds 12 = .ok (.iconst 1, 1) := by decide +kernel
theorem dX5_adds_13 : decode cX5_adds 13 = .ok (.bipush (-4), 2) := by decide +kernel
theorem dX5_adds_15 : decode cX5_adds 15 = .ok (.iastore, 1) := by decide +kernel
theorem dX5_adds_16 : decode cX5_adds 16 = .ok (.aload_n 0, 1) := by decide +kernel
theorem dX5_adds_17 : decode cX5_adds 17 = .ok (.invokevirtual 196, 3) := by decide +kernel
theorem dX5_adds_20 : decode cX5_adds 20 = .ok (.ifCond .ne 5, 3) := by decide +kernel
theorem dX5_adds_23 : decode cX5_adds 23 = .ok (.iconst 0, 1) := by decide +kernel
theorem dX5_adds_24 : decode cX5_adds 24 = .ok (.ireturn, 1) := by decide +kernel
theorem dX5_adds_25 : decode cX5_adds 25 = .ok (.iconst 3, 1) := by decide +kernel
theorem dX5_adds_26 : decode cX5_adds 26 = .ok (.istore_n 1, 1) := by decide +kernel
theorem dX5_adds_27 : decode cX5_adds 27 = .ok (.aload_n 0, 1) := by decide +kernel
theorem dX5_adds_28 : decode cX5_adds 28 = .ok (.invokevirtual 202, 3) := by decide +kernel
theorem dX5_adds_31 : decode cX5_adds 31 = .ok (.iconst 0, 1) := by decide +kernel
theorem dX5_adds_32 : decode cX5_adds 32 = .ok (.istore_n 2, 1) := by decide +kernel
theorem dX5_adds_33 : decode cX5_adds 33 = .ok (.iload_n 2, 1) := by decide +kernel
theorem dX5_adds_34 : decode cX5_adds 34 = .ok (.bipush 10, 2) := by decide +kernel
theorem dX5_adds_36 : decode cX5_adds 36 = .ok (.aload_n 0, 1) := by decide +kernel
theorem dX5_adds_37 : decode cX5_adds 37 = .ok (.getfield 78, 3) := by decide +kernel
theorem dX5_adds_40 : decode cX5_adds 40 = .ok (.imul, 1) := by decide +kernel
theorem dX5_adds_41 : decode cX5_adds 41 = .ok (.if_icmp .ge 188, 3) := by decide +kernel
theorem dX5_adds_44 : decode cX5_adds 44 = .ok (.iload_n 2, 1) := by decide +kernel
theorem dX5_adds_45 : decode cX5_adds 45 = .ok (.bipush 10, 2) := by decide +kernel
theorem dX5_adds_47 : decode cX5_adds 47 = .ok (.irem, 1) := by decide +kernel
theorem dX5_adds_48 : decode cX5_adds 48 = .ok (.iconst 5, 1) := by decide +kernel
theorem dX5_adds_49 : decode cX5_adds 49 = .ok (.if_icmp .ge 174, 3) := by decide +kernel
theorem dX5_adds_52 : decode cX5_adds 52 = .ok (.aload_n 0, 1) := by decide +kernel
theorem dX5_adds_53 : decode cX5_adds 53 = .ok (.iload_n 2, 1) := by decide +kernel
theorem dX5_adds_54 : decode cX5_adds 54 = .ok (.bipush 10, 2) := by decide +kernel
theorem dX5_adds_56 : decode cX5_adds 56 = .ok (.idiv, 1) := by decide +kernel
theorem dX5_adds_57 : decode cX5_adds 57 = .ok (.iload_n 2, 1) := by decide +kernel
theorem dX5_adds_58 : decode cX5_adds 58 = .ok (.bipush 10, 2) := by decide +kernel
theorem dX5_adds_60 : decode cX5_adds 60 = .ok (.irem, 1) := by decide +kernel
theorem dX5_adds_61 : decode cX5_adds 61 = .ok (.invokevirtual 177, 3) := by decide +kernel
theorem dX5_adds_64 : decode cX5_adds 64 = .ok (.ifCond .eq 159, 3) := by decide +kernel
theorem dX5_adds_67 : decode cX5_adds 67 = .ok (.aload_n 0, 1) := by decide +kernel
theorem dX5_adds_68 : decode cX5_adds 68 = .ok (.iload_n 2, 1) := by decide +kernel
theorem dX5_adds_69 : decode cX5_adds 69 = .ok (.bipush 10, 2) := by decide +kernel
theorem dX5_adds_71 : decode cX5_adds 71 = .ok (.idiv, 1) := by decide +kernel
theorem dX5_adds_72 : decode cX5_adds 72 = .ok (.iload_n 2, 1) := by decide +kernel
theorem dX5_adds_73 : decode cX5_adds 73 = .ok (.bipush 10, 2) := by decide +kernel
theorem dX5_adds_75 : decode cX5_adds 75 = .ok (.irem, 1) := by decide +kernel
theorem dX5_adds_76 : decode cX5_adds 76 = .ok (.iconst 1, 1) := by decide +kernel
theorem dX5_adds_77 : decode cX5_adds 77 = .ok (.invokevirtual 183, 3) := by decide +kernel
theorem dX5_adds_80 : decode cX5_adds 80 = .ok (.iload_n 1, 1) := by decide +kernel
theorem dX5_adds_81 : decode cX5_adds 81 = .ok (.iconst 1, 1) := by decide +kernel
theorem dX5_adds_82 : decode cX5_adds 82 = .ok (.if_icmp .le 27, 3) := by decide +kernel
theorem dX5_adds_85 : decode cX5_adds 85 = .ok (.aload_n 0, 1) := by decide +kernel
theorem dX5_adds_86 : decode cX5_adds 86 = .ok (.invokevirtual 196, 3) := by decide +kernel
theorem dX5_adds_89 : decode cX5_adds 89 = .ok (.ifCond .ne 20, 3) := by decide +kernel
theorem dX5_adds_92 : decode cX5_adds 92 = .ok (.iconst 1, 1) := by decide +kernel
theorem dX5_adds_93 : decode cX5_adds 93 = .ok (.istore_n 1, 1) := by decide +kernel
theorem dX5_adds_94 : decode cX5_adds 94 = .ok (.aload_n 0, 1) := by decide +kernel
theorem dX5_adds_95 : decode cX5_adds 95 = .ok (.getfield 58, 3) := by decide +kernel
theorem dX5_adds_98 : decode cX5_adds 98 = .ok (.iconst 0, 1) := by decide +kernel
theorem dX5_adds_99 : decode cX5_adds 99 = .ok (.iload_n 2, 1) := by decide +kernel
theorem dX5_adds_100 : decode cX5_adds 100 = .ok (.iastore, 1) := by decide +kernel
theorem dX5_adds_101 : decode cX5_adds 101 = .ok (.aload_n 0, 1) := by decide +kernel
theorem dX5_adds_102 : decode cX5_adds 102 = .ok (.getfield 58, 3) := by decide +kernel
theorem dX5_adds_105 : decode cX5_adds 105 = .ok (.iconst 1, 1) := by decide +kernel
theorem dX5_adds_106 : decode cX5_adds 106 = .ok (.bipush (-4), 2) := by decide +kernel
theorem dX5_adds_108 : decode cX5_adds 108 = .ok (.iastore, 1) := by decide +kernel
theorem dX5_adds_109 : decode cX5_adds 109 = .ok (.iload_n 2, 1) := by decide +kernel
theorem dX5_adds_110 : decode cX5_adds 110 = .ok (.iconst 1, 1) := by decide +kernel
theorem dX5_adds_111 : decode cX5_adds 111 = .ok (.iadd, 1) := by decide +kernel
theorem dX5_adds_112 : decode cX5_adds 112 = .ok (.istore_n 3, 1) := by decide +kernel
theorem dX5_adds_113 : decode cX5_adds 113 = .ok (.iload_n 3, 1) := by decide +kernel
theorem dX5_adds_114 : decode cX5_adds 114 = .ok (.bipush 10, 2) := by decide +kernel
theorem dX5_adds_116 : decode cX5_adds 116 = .ok (.aload_n 0, 1) := by decide +kernel
theorem dX5_adds_117 : decode cX5_adds 117 = .ok (.getfield 78, 3) := by decide +kernel
theorem dX5_adds_120 : decode cX5_adds 120 = .ok (.imul, 1) := by decide +kernel
theorem dX5_adds_121 : decode cX5_adds 121 = .ok (.if_icmp .ge 90, 3) := by decide +kernel
theorem dX5_adds_124 : decode cX5_adds 124 = .ok (.iload_n 1, 1) := by decide +kernel
theorem dX5_adds_125 : decode cX5_adds 125 = .ok (.iconst 2, 1) := by decide +kernel
theorem dX5_adds_126 : decode cX5_adds 126 = .ok (.if_icmp .le 85, 3) := by decide +kernel
theorem dX5_adds_129 : decode cX5_adds 129 = .ok (.iload_n 3, 1) := by decide +kernel
theorem dX5_adds_130 : decode cX5_adds 130 = .ok (.bipush 10, 2) := by decide +kernel
theorem dX5_adds_132 : decode cX5_adds 132 = .ok (.irem, 1) := by decide +kernel
theorem dX5_adds_133 : decode cX5_adds 133 = .ok (.iconst 5, 1) := by decide +kernel
theorem dX5_adds_134 : decode cX5_adds 134 = .ok (.if_icmp .ge 71, 3) := by decide +kernel
theorem dX5_adds_137 : decode cX5_adds 137 = .ok (.aload_n 0, 1) := by decide +kernel
theorem dX5_adds_138 : decode cX5_adds 138 = .ok (.iload_n 3, 1) := by decide +kernel
theorem dX5_adds_139 : decode cX5_adds 139 = .ok (.bipush 10, 2) := by decide +kernel
theorem dX5_adds_141 : decode cX5_adds 141 = .ok (.idiv, 1) := by decide +kernel
theorem dX5_adds_142 : decode cX5_adds 142 = .ok (.iload_n 3, 1) := by decide +kernel
theorem dX5_adds_143 : decode cX5_adds 143 = .ok (.bipush 10, 2) := by decide +kernel
theorem dX5_adds_145 : decode cX5_adds 145 = .ok (.irem, 1) := by decide +kernel
theorem dX5_adds_146 : decode cX5_adds 146 = .ok (.invokevirtual 177, 3) := by decide +kernel
theorem dX5_adds_149 : decode cX5_adds 149 = .ok (.ifCond .eq 56, 3) := by decide +kernel
theorem dX5_adds_152 : decode cX5_adds 152 = .ok (.aload_n 0, 1) := by decide +kernel
theorem dX5_adds_153 : decode cX5_adds 153 = .ok (.iload_n 3, 1) := by decide +kernel
theorem dX5_adds_154 : decode cX5_adds 154 = .ok (.bipush 10, 2) := by decide +kernel
theorem dX5_adds_156 : decode cX5_adds 156 = .ok (.idiv, 1) := by decide +kernel
theorem dX5_adds_157 : decode cX5_adds 157 = .ok (.iload_n 3, 1) := by decide +kernel
theorem dX5_adds_158 : decode cX5_adds 158 = .ok (.bipush 10, 2) := by decide +kernel
theorem dX5_adds_160 : decode cX5_adds 160 = .ok (.irem, 1) := by decide +kernel
theorem dX5_adds_161 : decode cX5_adds 161 = .ok (.iconst 1, 1) := by decide +kernel
theorem dX5_adds_162 : decode cX5_adds 162 = .ok (.invokevirtual 183, 3) := by decide +kernel
theorem dX5_adds_165 : decode cX5_adds 165 = .ok (.iload_n 1, 1) := by decide +kernel
theorem dX5_adds_166 : decode cX5_adds 166 = .ok (.iconst 2, 1) := by decide +kernel
theorem dX5_adds_167 : decode cX5_adds 167 = .ok (.if_icmp .le 26, 3) := by decide +kernel
theorem dX5_adds_170 : decode cX5_adds 170 = .ok (.aload_n 0, 1) := by decide +kernel
theorem dX5_adds_171 : decode cX5_adds 171 = .ok (.invokevirtual 196, 3) := by decide +kernel
theorem dX5_adds_174 : decode cX5_adds 174 = .ok (.ifCond .ne 19, 3) := by decide +kernel
theorem dX5_adds_177 : decode cX5_adds 177 = .ok (.iconst 2, 1) := by decide +kernel
theorem dX5_adds_178 : decode cX5_adds 178 = .ok (.istore_n 1, 1) := by decide +kernel
theorem dX5_adds_179 : decode cX5_adds 179 = .ok (.aload_n 0, 1) := by decide +kernel
theorem dX5_adds_180 : decode cX5_adds 180 = .ok (.getfield 58, 3) := by decide +kernel
theorem dX5_adds_183 : decode cX5_adds 183 = .ok (.iconst 0, 1) := by decide +kernel
theorem dX5_adds_184 : decode cX5_adds 184 = .ok (.iload_n 2, 1) := by decide +kernel
theorem dX5_adds_185 : decode cX5_adds 185 = .ok (.iastore, 1) := by decide +kernel
theorem dX5_adds_186 : decode cX5_adds 186 = .ok (.aload_n 0, 1) := by decide +kernel
theorem dX5_adds_187 : decode cX5_adds 187 = .ok (.getfield 58, 3) := by decide +kernel
theorem dX5_adds_190 : decode cX5_adds 190 = .ok (.iconst 1, 1) := by decide +kernel
theorem dX5_adds_191 : decode cX5_adds 191 = .ok (.iload_n 3, 1) := by decide +kernel
theorem dX5_adds_192 : decode cX5_adds 192 = .ok (.iastore, 1) := by decide +kernel
theorem dX5_adds_193 : decode cX5_adds 193 = .ok (.aload_n 0, 1) := by decide +kernel
theorem dX5_adds_194 : decode cX5_adds 194 = .ok (.iload_n 3, 1) := by decide +kernel
theorem dX5_adds_195 : decode cX5_adds 195 = .ok (.bipush 10, 2) := by decide +kernel
theorem dX5_adds_197 : decode cX5_adds 197 = .ok (.idiv, 1) := by decide +kernel
theorem dX5_adds_198 : decode cX5_adds 198 = .ok (.iload_n 3, 1) := by decide +kernel
theorem dX5_adds_199 : decode cX5_adds 199 = .ok (.bipush 10, 2) := by decide +kernel
theorem dX5_adds_201 : decode cX5_adds 201 = .ok (.irem, 1) := by decide +kernel
theorem dX5_adds_202 : decode cX5_adds 202 = .ok (.invokevirtual 187, 3) := by decide +kernel
theorem dX5_adds_205 : decode cX5_adds 205 = .ok (.iinc 3 1, 3) := by decide +kernel
theorem dX5_adds_208 : decode cX5_adds 208 = .ok (.goto (-95), 3) := by decide +kernel
theorem dX5_adds_211 : decode cX5_adds 211 = .ok (.aload_n 0, 1) := by decide +kernel
theorem dX5_adds_212 : decode cX5_adds 212 = .ok (.iload_n 2, 1) := by decide +kernel
theorem dX5_adds_213 : decode cX5_adds 213 = .ok (.bipush 10, 2) := by decide +kernel
theorem dX5_adds_215 : decode cX5_adds 215 = .ok (.idiv, 1) := by decide +kernel
theorem dX5_adds_216 : decode cX5_adds 216 = .ok (.iload_n 2, 1) := by decide +kernel
theorem dX5_adds_217 : decode cX5_adds 217 = .ok (.bipush 10, 2) := by decide +kernel
theorem dX5_adds_219 : decode cX5_adds 219 = .ok (.irem, 1) := by decide +kernel
theorem dX5_adds_220 : decode cX5_adds 220 = .ok (.invokevirtual 187, 3) := by decide +kernel
theorem dX5_adds_223 : decode cX5_adds 223 = .ok (.iinc 2 1, 3) := by decide +kernel
theorem dX5_adds_226 : decode cX5_adds 226 = .ok (.goto (-193), 3) := by decide +kernel
theorem dX5_adds_229 : decode cX5_adds 229 = .ok (.aload_n 0, 1) := by decide +kernel
theorem dX5_adds_230 : decode cX5_adds 230 = .ok (.invokevirtual 205, 3) := by decide +kernel
theorem dX5_adds_233 : decode cX5_adds 233 = .ok (.iload_n 1, 1) := by decide +kernel
theorem dX5_adds_234 : decode cX5_adds 234 = .ok (.iconst 3, 1) := by decide +kernel
theorem dX5_adds_235 : decode cX5_adds 235 = .ok (.if_icmp .ge 7, 3) := by decide +kernel
theorem dX5_adds_238 : decode cX5_adds 238 = .ok (.iload_n 1, 1) := by decide +kernel
theorem dX5_adds_239 : decode cX5_adds 239 = .ok (.goto 5, 3) := by decide +kernel
theorem dX5_adds_242 : decode cX5_adds 242 = .ok (.bipush (-4), 2) := by decide +kernel
theorem dX5_adds_244 : decode cX5_adds 244 = .ok (.ireturn, 1) := by decide +kernel
theorem dX5_add_0 : decode cX5_add 0 = .ok (.iload_n 1, 1) := by decide +kernel
theorem dX5_add_1 : decode cX5_add 1 = .ok (.iconst (-1), 1) := by decide +kernel
theorem dX5_add_2 : decode cX5_add 2 = .ok (.iconst 1, 1) := by decide +kernel
theorem dX5_add_3 : decode cX5_add 3 = .ok (.invokestatic 81, 3) := by decide +kernel
theorem dX5_add_6 : decode cX5_add 6 = .ok (.ifCond .ne 5, 3) := by decide +kernel
theorem dX5_add_9 : decode cX5_add 9 = .ok (.iconst (-1), 1) := by decide +kernel
theorem dX5_add_10 : decode cX5_add 10 = .ok (.ireturn, 1) := by decide +kernel
theorem dX5_add_11 : decode cX5_add 11 = .ok (.aload_n 0, 1) := by decide +kernel
theorem dX5_add_12 : decode cX5_add 12 = .ok (.invokevirtual 219, 3) := by decide +kernel
theorem dX5_add_15 : decode cX5_add 15 = .ok (.istore_n 2, 1) := by decide +kernel
theorem dX5_add_16 : decode cX5_add 16 = .ok (.iload_n 2, 1) := by decide +kernel
theorem dX5_add_17 : decode cX5_add 17 = .ok (.bipush (-4), 2) := by decide +kernel
theorem dX5_add_19 : decode cX5_add 19 = .ok (.if_icmp .eq 7, 3) := by decide +kernel
theorem dX5_add_22 : decode cX5_add 22 = .ok (.iload_n 1, 1) := by decide +kernel
theorem dX5_add_23 : decode cX5_add 23 = .ok (.ifCond .ge 7, 3) := by decide +kernel
theorem dX5_add_26 : decode cX5_add 26 = .ok (.iload_n 2, 1) := by decide +kernel
theorem dX5_add_27 : decode cX5_add 27 = .ok (.goto 9, 3) := by decide +kernel
theorem dX5_add_30 : decode cX5_add 30 = .ok (.aload_n 0, 1) := by decide +kernel
theorem dX5_add_31 : decode cX5_add 31 = .ok (.getfield 58, 3) := by decide +kernel
theorem dX5_add_34 : decode cX5_add 34 = .ok (.iload_n 1, 1) := by decide +kernel
theorem dX5_add_35 : decode cX5_add 35 = .ok (.iaload, 1) := by decide +kernel
theorem dX5_add_36 : decode cX5_add 36 = .ok (.ireturn, 1) := by decide +kernel
theorem dX5_say_0 : decode cX5_say 0 = .ok (.iload_n 1, 1) := by decide +kernel
theorem dX5_say_1 : decode cX5_say 1 = .ok (.invokestatic 170, 3) := by decide +kernel
theorem dX5_say_4 : decode cX5_say 4 = .ok (.ifCond .eq 12, 3) := by decide +kernel
theorem dX5_say_7 : decode cX5_say 7 = .ok (.iload_n 2, 1) := by decide +kernel
theorem dX5_say_8 : decode cX5_say 8 = .ok (.iconst 0, 1) := by decide +kernel
theorem dX5_say_9 : decode cX5_say 9 = .ok (.iconst 1, 1) := by decide +kernel
theorem dX5_say_10 : decode cX5_say 10 = .ok (.invokestatic 81, 3) := by decide +kernel
theorem dX5_say_13 : decode cX5_say 13 = .ok (.ifCond .ne 5, 3) := by decide +kernel
theorem dX5_say_16 : decode cX5_say 16 = .ok (.iconst (-1), 1) := by decide +kernel
theorem dX5_say_17 : decode cX5_say 17 = .ok (.ireturn, 1) := by decide +kernel
theorem dX5_say_18 : decode cX5_say 18 = .ok (.aload_n 0, 1) := by decide +kernel
theorem dX5_say_19 : decode cX5_say 19 = .ok (.getfield 136, 3) := by decide +kernel
theorem dX5_say_22 : decode cX5_say 22 = .ok (.bipush 6, 2) := by decide +kernel
theorem dX5_say_24 : decode cX5_say 24 = .ok (.if_icmp .ne 6, 3) := by decide +kernel
theorem dX5_say_27 : decode cX5_say 27 = .ok (.bipush (-3), 2) := by decide +kernel
theorem dX5_say_29 : decode cX5_say 29 = .ok (.ireturn, 1) := by decide +kernel
theorem dX5_say_30 : decode cX5_say 30 = .ok (.aload_n 0, 1) := by decide +kernel
theorem dX5_say_31 : decode cX5_say 31 = .ok (.getfield 28, 3) := by decide +kernel
theorem dX5_say_34 : decode cX5_say 34 = .ok (.aload_n 0, 1) := by decide +kernel
theorem dX5_say_35 : decode cX5_say 35 = .ok (.getfield 136, 3) := by decide +kernel
theorem dX5_say_38 : decode cX5_say 38 = .ok (.iload_n 1, 1) := by decide +kernel
theorem dX5_say_39 : decode cX5_say 39 = .ok (.iastore, 1) := by decide +kernel
theorem dX5_say_40 : decode cX5_say 40 = .ok (.aload_n 0, 1) := by decide +kernel
theorem dX5_say_41 : decode cX5_say 41 = .ok (.getfield 31, 3) := by decide +kernel
theorem dX5_say_44 : decode cX5_say 44 = .ok (.aload_n 0, 1) := by decide +kernel
theorem dX5_say_45 : decode cX5_say 45 = .ok (.getfield 136, 3) := by decide +kernel
theorem dX5_say_48 : decode cX5_say 48 = .ok (.iload_n 2, 1) := by decide +kernel
theorem dX5_say_49 : decode cX5_say 49 = .ok (.iastore, 1) := by decide +kernel
theorem dX5_say_50 : decode cX5_say 50 = .ok (.aload_n 0, 1) := by decide +kernel
theorem dX5_say_51 : decode cX5_say 51 = .ok (.dup, 1) := by decide +kernel
theorem dX5_say_52 : decode cX5_say 52 = .ok (.getfield 136, 3) := by decide +kernel
theorem dX5_say_55 : decode cX5_say 55 = .ok (.iconst 1, 1) := by decide +kernel
theorem dX5_say_56 : decode cX5_say 56 = .ok (.iadd, 1) := by decide +kernel
theorem dX5_say_57 : decode cX5_say 57 = .ok (.putfield 136, 3) := by decide +kernel
theorem dX5_say_60 : decode cX5_say 60 = .ok (.aload_n 0, 1) := by decide +kernel
theorem dX5_say_61 : decode cX5_say 61 = .ok (.getfield 136, 3) := by decide +kernel
theorem dX5_say_64 : decode cX5_say 64 = .ok (.ireturn, 1) := by decide +kernel
theorem dX5_forget_0 : decode cX5_forget 0 = .ok (.aload_n 0, 1) := by decide +kernel
theorem dX5_forget_1 : decode cX5_forget 1 = .ok (.getfield 136, 3) := by decide +kernel
theorem dX5_forget_4 : decode cX5_forget 4 = .ok (.istore_n 1, 1) := by decide +kernel
theorem dX5_forget_5 : decode cX5_forget 5 = .ok (.aload_n 0, 1) := by decide +kernel
theorem dX5_forget_6 : decode cX5_forget 6 = .ok (.iconst 0, 1) := by decide +kernel
theorem dX5_forget_7 : decode cX5_forget 7 = .ok (.putfield 136, 3) := by decide +kernel
theorem dX5_forget_10 : decode cX5_forget 10 = .ok (.iload_n 1, 1) := by decide +kernel
theorem dX5_forget_11 : decode cX5_forget 11 = .ok (.ireturn, 1) := by decide +kernel
theorem dX5_those_0 : decode cX5_those 0 = .ok (.iconst 0, 1) := by decide +kernel
theorem dX5_those_1 : decode cX5_those 1 = .ok (.istore_n 1, 1) := by decide +kernel
theorem dX5_those_2 : decode cX5_those 2 = .ok (.iconst 0, 1) := by decide +kernel
theorem dX5_those_3 : decode cX5_those 3 = .ok (.istore_n 2, 1) := by decide +kernel
theorem dX5_those_4 : decode cX5_those 4 = .ok (.iload_n 2, 1) := by decide +kernel
theorem dX5_those_5 : decode cX5_those 5 = .ok (.aload_n 0, 1) := by decide +kernel
theorem dX5_those_6 : decode cX5_those 6 = .ok (.getfield 78, 3) := by decide +kernel
theorem dX5_those_9 : decode cX5_those 9 = .ok (.if_icmp .ge 78, 3) := by decide +kernel
theorem dX5_those_12 : decode cX5_those 12 = .ok (.iconst 1, 1) := by decide +kernel
theorem dX5_those_13 : decode cX5_those 13 = .ok (.istore_n 3, 1) := by decide +kernel
theorem dX5_those_14 : decode cX5_those 14 = .ok (.iconst 0, 1) := by decide +kernel
theorem dX5_those_15 : decode cX5_those 15 = .ok (.istore 4, 2) := by decide +kernel
theorem dX5_those_17 : decode cX5_those 17 = .ok (.iload 4, 2) := by decide +kernel
theorem dX5_those_19 : decode cX5_those 19 = .ok (.aload_n 0, 1) := by decide +kernel
theorem dX5_those_20 : decode cX5_those 20 = .ok (.getfield 136, 3) := by decide +kernel
theorem dX5_those_23 : decode cX5_those 23 = .ok (.if_icmp .ge 44, 3) := by decide +kernel
theorem dX5_those_26 : decode cX5_those 26 = .ok (.iload_n 3, 1) := by decide +kernel
theorem dX5_those_27 : decode cX5_those 27 = .ok (.ifCond .eq 32, 3) := by decide +kernel
theorem dX5_those_30 : decode cX5_those 30 = .ok (.aload_n 0, 1) := by decide +kernel
theorem dX5_those_31 : decode cX5_those 31 = .ok (.iload_n 2, 1) := by decide +kernel
theorem dX5_those_32 : decode cX5_those 32 = .ok (.invokevirtual 85, 3) := by decide +kernel
theorem dX5_those_35 : decode cX5_those 35 = .ok (.aload_n 0, 1) := by decide +kernel
theorem dX5_those_36 : decode cX5_those 36 = .ok (.getfield 28, 3) := by decide +kernel
theorem dX5_those_39 : decode cX5_those 39 = .ok (.iload 4, 2) := by decide +kernel
theorem dX5_those_41 : decode cX5_those 41 = .ok (.iaload, 1) := by decide +kernel
theorem dX5_those_42 : decode cX5_those 42 = .ok (.ishr, 1) := by decide +kernel
theorem dX5_those_43 : decode cX5_those 43 = .ok (.iconst 1, 1) := by decide +kernel
theorem dX5_those_44 : decode cX5_those 44 = .ok (.iand, 1) := by decide +kernel
theorem dX5_those_45 : decode cX5_those 45 = .ok (.aload_n 0, 1) := by decide +kernel
theorem dX5_those_46 : decode cX5_those 46 = .ok (.getfield 31, 3) := by decide +kernel
theorem dX5_those_49 : decode cX5_those 49 = .ok (.iload 4, 2) := by decide +kernel
theorem dX5_those_51 : decode cX5_those 51 = .ok (.iaload, 1) := by decide +kernel
theorem dX5_those_52 : decode cX5_those 52 = .ok (.if_icmp .ne 7, 3) := by decide +kernel
theorem dX5_those_55 : decode cX5_those 55 = .ok (.iconst 1, 1) := by decide +kernel
theorem dX5_those_56 : decode cX5_those 56 = .ok (.goto 4, 3) := by decide +kernel
theorem dX5_those_59 : decode cX5_those 59 = .ok (.iconst 0, 1) := by decide +kernel
theorem dX5_those_60 : decode cX5_those 60 = .ok (.istore_n 3, 1) := by decide +kernel
theorem dX5_those_61 : decode cX5_those 61 = .ok (.iinc 4 1, 3) := by decide +kernel
theorem dX5_those_64 : decode cX5_those 64 = .ok (.goto (-47), 3) := by decide +kernel
theorem dX5_those_67 : decode cX5_those 67 = .ok (.iload_n 1, 1) := by decide +kernel
theorem dX5_those_68 : decode cX5_those 68 = .ok (.iload_n 3, 1) := by decide +kernel
theorem dX5_those_69 : decode cX5_those 69 = .ok (.ifCond .eq 9, 3) := by decide +kernel
theorem dX5_those_72 : decode cX5_those 72 = .ok (.iconst 1, 1) := by decide +kernel
theorem dX5_those_73 : decode cX5_those 73 = .ok (.iload_n 2, 1) := by decide +kernel
theorem dX5_those_74 : decode cX5_those 74 = .ok (.ishl, 1) := by decide +kernel
theorem dX5_those_75 : decode cX5_those 75 = .ok (.goto 4, 3) := by decide +kernel
theorem dX5_those_78 : decode cX5_those 78 = .ok (.iconst 0, 1) := by decide +kernel
theorem dX5_those_79 : decode cX5_those 79 = .ok (.ior, 1) := by decide +kernel
theorem dX5_those_80 : decode cX5_those 80 = .ok (.istore_n 1, 1) := by decide +kernel
theorem dX5_those_81 : decode cX5_those 81 = .ok (.iinc 2 1, 3) := by decide +kernel
theorem dX5_those_84 : decode cX5_those 84 = .ok (.goto (-80), 3) := by decide +kernel
theorem dX5_those_87 : decode cX5_those 87 = .ok (.iload_n 1, 1) := by decide +kernel
theorem dX5_those_88 : decode cX5_those 88 = .ok (.ireturn, 1) := by decide +kernel
theorem dX5_which_0 : decode cX5_which 0 = .ok (.aload_n 0, 1) := by decide +kernel
theorem dX5_which_1 : decode cX5_which 1 = .ok (.invokevirtual 222, 3) := by decide +kernel
theorem dX5_which_4 : decode cX5_which 4 = .ok (.ireturn, 1) := by decide +kernel
theorem dX5_ask_0 : decode cX5_ask 0 = .ok (.iload_n 1, 1) := by decide +kernel
theorem dX5_ask_1 : decode cX5_ask 1 = .ok (.iconst 0, 1) := by decide +kernel
theorem dX5_ask_2 : decode cX5_ask 2 = .ok (.iconst 1, 1) := by decide +kernel
theorem dX5_ask_3 : decode cX5_ask 3 = .ok (.invokestatic 81, 3) := by decide +kernel
theorem dX5_ask_6 : decode cX5_ask 6 = .ok (.ifCond .ne 5, 3) := by decide +kernel
theorem dX5_ask_9 : decode cX5_ask 9 = .ok (.iconst (-1), 1) := by decide +kernel
theorem dX5_ask_10 : decode cX5_ask 10 = .ok (.ireturn, 1) := by decide +kernel
theorem dX5_ask_11 : decode cX5_ask 11 = .ok (.aload_n 0, 1) := by decide +kernel
theorem dX5_ask_12 : decode cX5_ask 12 = .ok (.invokevirtual 222, 3) := by decide +kernel
theorem dX5_ask_15 : decode cX5_ask 15 = .ok (.istore_n 2, 1) := by decide +kernel
theorem dX5_ask_16 : decode cX5_ask 16 = .ok (.iconst 0, 1) := by decide +kernel
theorem dX5_ask_17 : decode cX5_ask 17 = .ok (.istore_n 3, 1) := by decide +kernel
theorem dX5_ask_18 : decode cX5_ask 18 = .ok (.iconst 0, 1) := by decide +kernel
theorem dX5_ask_19 : decode cX5_ask 19 = .ok (.istore 4, 2) := by decide +kernel
theorem dX5_ask_21 : decode cX5_ask 21 = .ok (.iload 4, 2) := by decide +kernel
theorem dX5_ask_23 : decode cX5_ask 23 = .ok (.aload_n 0, 1) := by decide +kernel
theorem dX5_ask_24 : decode cX5_ask 24 = .ok (.getfield 136, 3) := by decide +kernel
theorem dX5_ask_27 : decode cX5_ask 27 = .ok (.if_icmp .ge 21, 3) := by decide +kernel
theorem dX5_ask_30 : decode cX5_ask 30 = .ok (.iload_n 3, 1) := by decide +kernel
theorem dX5_ask_31 : decode cX5_ask 31 = .ok (.iconst 1, 1) := by decide +kernel
theorem dX5_ask_32 : decode cX5_ask 32 = .ok (.aload_n 0, 1) := by decide +kernel
theorem dX5_ask_33 : decode cX5_ask 33 = .ok (.getfield 28, 3) := by decide +kernel
theorem dX5_ask_36 : decode cX5_ask 36 = .ok (.iload 4, 2) := by decide +kernel
theorem dX5_ask_38 : decode cX5_ask 38 = .ok (.iaload, 1) := by decide +kernel
theorem dX5_ask_39 : decode cX5_ask 39 = .ok (.ishl, 1) := by decide +kernel
theorem dX5_ask_40 : decode cX5_ask 40 = .ok (.ior, 1) := by decide +kernel
theorem dX5_ask_41 : decode cX5_ask 41 = .ok (.istore_n 3, 1) := by decide +kernel
theorem dX5_ask_42 : decode cX5_ask 42 = .ok (.iinc 4 1, 3) := by decide +kernel
theorem dX5_ask_45 : decode cX5_ask 45 = .ok (.goto (-24), 3) := by decide +kernel
theorem dX5_ask_48 : decode cX5_ask 48 = .ok (.bipush (-4), 2) := by decide +kernel
theorem dX5_ask_50 : decode cX5_ask 50 = .ok (.istore 4, 2) := by decide +kernel
theorem dX5_ask_52 : decode cX5_ask 52 = .ok (.ldc 212, 2) := by decide +kernel
theorem dX5_ask_54 : decode cX5_ask 54 = .ok (.istore 5, 2) := by decide +kernel
theorem dX5_ask_56 : decode cX5_ask 56 = .ok (.iconst 0, 1) := by decide +kernel
theorem dX5_ask_57 : decode cX5_ask 57 = .ok (.istore 6, 2) := by decide +kernel
theorem dX5_ask_59 : decode cX5_ask 59 = .ok (.iload 6, 2) := by decide +kernel
theorem dX5_ask_61 : decode cX5_ask 61 = .ok (.iconst 5, 1) := by decide +kernel
theorem dX5_ask_62 : decode cX5_ask 62 = .ok (.if_icmp .ge 132, 3) := by decide +kernel
theorem dX5_ask_65 : decode cX5_ask 65 = .ok (.iload_n 2, 1) := by decide +kernel
theorem dX5_ask_66 : decode cX5_ask 66 = .ok (.ifCond .eq 128, 3) := by decide +kernel
theorem dX5_ask_69 : decode cX5_ask 69 = .ok (.iconst 0, 1) := by decide +kernel
theorem dX5_ask_70 : decode cX5_ask 70 = .ok (.istore 7, 2) := by decide +kernel
theorem dX5_ask_72 : decode cX5_ask 72 = .ok (.iconst 0, 1) := by decide +kernel
theorem dX5_ask_73 : decode cX5_ask 73 = .ok (.istore 8, 2) := by decide +kernel
theorem dX5_ask_75 : decode cX5_ask 75 = .ok (.iload 8, 2) := by decide +kernel
theorem dX5_ask_77 : decode cX5_ask 77 = .ok (.aload_n 0, 1) := by decide +kernel
theorem dX5_ask_78 : decode cX5_ask 78 = .ok (.getfield 78, 3) := by decide +kernel
theorem dX5_ask_81 : decode cX5_ask 81 = .ok (.if_icmp .ge 42, 3) := by decide +kernel
theorem dX5_ask_84 : decode cX5_ask 84 = .ok (.iload 7, 2) := by decide +kernel
theorem dX5_ask_86 : decode cX5_ask 86 = .ok (.iload_n 2, 1) := by decide +kernel
theorem dX5_ask_87 : decode cX5_ask 87 = .ok (.iload 8, 2) := by decide +kernel
theorem dX5_ask_89 : decode cX5_ask 89 = .ok (.invokestatic 149, 3) := by decide +kernel
theorem dX5_ask_92 : decode cX5_ask 92 = .ok (.ifCond .eq 21, 3) := by decide +kernel
theorem dX5_ask_95 : decode cX5_ask 95 = .ok (.aload_n 0, 1) := by decide +kernel
theorem dX5_ask_96 : decode cX5_ask 96 = .ok (.iload 8, 2) := by decide +kernel
theorem dX5_ask_98 : decode cX5_ask 98 = .ok (.invokevirtual 85, 3) := by decide +kernel
theorem dX5_ask_101 : decode cX5_ask 101 = .ok (.iload 6, 2) := by decide +kernel
theorem dX5_ask_103 : decode cX5_ask 103 = .ok (.invokestatic 149, 3) := by decide +kernel
theorem dX5_ask_106 : decode cX5_ask 106 = .ok (.ifCond .eq 7, 3) := by decide +kernel
theorem dX5_ask_109 : decode cX5_ask 109 = .ok (.iconst 1, 1) := by decide +kernel
theorem dX5_ask_110 : decode cX5_ask 110 = .ok (.goto 4, 3) := by decide +kernel
theorem dX5_ask_113 : decode cX5_ask 113 = .ok (.iconst 0, 1) := by decide +kernel
theorem dX5_ask_114 : decode cX5_ask 114 = .ok (.iadd, 1) := by decide +kernel
theorem dX5_ask_115 : decode cX5_ask 115 = .ok (.istore 7, 2) := by decide +kernel
theorem dX5_ask_117 : decode cX5_ask 117 = .ok (.iinc 8 1, 3) := by decide +kernel
theorem dX5_ask_120 : decode cX5_ask 120 = .ok (.goto (-45), 3) := by decide +kernel
theorem dX5_ask_123 : decode cX5_ask 123 = .ok (.iload 7, 2) := by decide +kernel
theorem dX5_ask_125 : decode cX5_ask 125 = .ok (.iload_n 2, 1) := by decide +kernel
theorem dX5_ask_126 : decode cX5_ask 126 = .ok (.invokestatic 213, 3) := by decide +kernel
theorem dX5_ask_129 : decode cX5_ask 129 = .ok (.iload 7, 2) := by decide +kernel
theorem dX5_ask_131 : decode cX5_ask 131 = .ok (.isub, 1) := by decide +kernel
theorem dX5_ask_132 : decode cX5_ask 132 = .ok (.invokestatic 145, 3) := by decide +kernel
theorem dX5_ask_135 : decode cX5_ask 135 = .ok (.istore 8, 2) := by decide +kernel
theorem dX5_ask_137 : decode cX5_ask 137 = .ok (.iload_n 3, 1) := by decide +kernel
theorem dX5_ask_138 : decode cX5_ask 138 = .ok (.iload 6, 2) := by decide +kernel
theorem dX5_ask_140 : decode cX5_ask 140 = .ok (.invokestatic 149, 3) := by decide +kernel
theorem dX5_ask_143 : decode cX5_ask 143 = .ok (.ifCond .ne 14, 3) := by decide +kernel
theorem dX5_ask_146 : decode cX5_ask 146 = .ok (.iload 8, 2) := by decide +kernel
theorem dX5_ask_148 : decode cX5_ask 148 = .ok (.iload 5, 2) := by decide +kernel
theorem dX5_ask_150 : decode cX5_ask 150 = .ok (.if_icmp .ge 7, 3) := by decide +kernel
theorem dX5_ask_153 : decode cX5_ask 153 = .ok (.iconst 1, 1) := by decide +kernel
theorem dX5_ask_154 : decode cX5_ask 154 = .ok (.goto 4, 3) := by decide +kernel
theorem dX5_ask_157 : decode cX5_ask 157 = .ok (.iconst 0, 1) := by decide +kernel
theorem dX5_ask_158 : decode cX5_ask 158 = .ok (.istore 9, 2) := by decide +kernel
theorem dX5_ask_160 : decode cX5_ask 160 = .ok (.iload 9, 2) := by decide +kernel
theorem dX5_ask_162 : decode cX5_ask 162 = .ok (.ifCond .eq 8, 3) := by decide +kernel
theorem dX5_ask_165 : decode cX5_ask 165 = .ok (.iload 6, 2) := by decide +kernel
theorem dX5_ask_167 : decode cX5_ask 167 = .ok (.goto 5, 3) := by decide +kernel
theorem dX5_ask_170 : decode cX5_ask 170 = .ok (.iload 4, 2) := by decide +kernel
theorem dX5_ask_172 : decode cX5_ask 172 = .ok (.istore 4, 2) := by decide +kernel
theorem dX5_ask_174 : decode cX5_ask 174 = .ok (.iload 9, 2) := by decide +kernel
theorem dX5_ask_176 : decode cX5_ask 176 = .ok (.ifCond .eq 8, 3) := by decide +kernel
theorem dX5_ask_179 : decode cX5_ask 179 = .ok (.iload 8, 2) := by decide +kernel
theorem dX5_ask_181 : decode cX5_ask 181 = .ok (.goto 5, 3) := by decide +kernel
theorem dX5_ask_184 : decode cX5_ask 184 = .ok (.iload 5, 2) := by decide +kernel
theorem dX5_ask_186 : decode cX5_ask 186 = .ok (.istore 5, 2) := by decide +kernel
theorem dX5_ask_188 : decode cX5_ask 188 = .ok (.iinc 6 1, 3) := by decide +kernel
theorem dX5_ask_191 : decode cX5_ask 191 = .ok (.goto (-132), 3) := by decide +kernel
theorem dX5_ask_194 : decode cX5_ask 194 = .ok (.iload 4, 2) := by decide +kernel
theorem dX5_ask_196 : decode cX5_ask 196 = .ok (.bipush (-4), 2) := by decide +kernel
theorem dX5_ask_198 : decode cX5_ask 198 = .ok (.if_icmp .eq 7, 3) := by decide +kernel
theorem dX5_ask_201 : decode cX5_ask 201 = .ok (.iload_n 1, 1) := by decide +kernel
theorem dX5_ask_202 : decode cX5_ask 202 = .ok (.ifCond .ne 8, 3) := by decide +kernel
theorem dX5_ask_205 : decode cX5_ask 205 = .ok (.iload 4, 2) := by decide +kernel
theorem dX5_ask_207 : decode cX5_ask 207 = .ok (.goto 5, 3) := by decide +kernel
theorem dX5_ask_210 : decode cX5_ask 210 = .ok (.iload 5, 2) := by decide +kernel
theorem dX5_ask_212 : decode cX5_ask 212 = .ok (.ireturn, 1) := by decide +kernel
theorem dX5_mayHave_0 : decode cX5_mayHave 0 = .ok (.aload_n 0, 1) := by decide +kernel
theorem dX5_mayHave_1 : decode cX5_mayHave 1 = .ok (.iload_n 1, 1) := by decide +kernel
theorem dX5_mayHave_2 : decode cX5_mayHave 2 = .ok (.invokevirtual 85, 3) := by decide +kernel
theorem dX5_mayHave_5 : decode cX5_mayHave 5 = .ok (.aload_n 0, 1) := by decide +kernel
theorem dX5_mayHave_6 : decode cX5_mayHave 6 = .ok (.getfield 25, 3) := by decide +kernel
theorem dX5_mayHave_9 : decode cX5_mayHave 9 = .ok (.iload_n 2, 1) := by decide +kernel
theorem dX5_mayHave_10 : decode cX5_mayHave 10 = .ok (.iaload, 1) := by decide +kernel
theorem dX5_mayHave_11 : decode cX5_mayHave 11 = .ok (.iconst (-1), 1) := by decide +kernel
theorem dX5_mayHave_12 : decode cX5_mayHave 12 = .ok (.ixor, 1) := by decide +kernel
theorem dX5_mayHave_13 : decode cX5_mayHave 13 = .ok (.iand, 1) := by decide +kernel
theorem dX5_mayHave_14 : decode cX5_mayHave 14 = .ok (.ifCond .ne 7, 3) := by decide +kernel
theorem dX5_mayHave_17 : decode cX5_mayHave 17 = .ok (.iconst 1, 1) := by decide +kernel
theorem dX5_mayHave_18 : decode cX5_mayHave 18 = .ok (.goto 4, 3) := by decide +kernel
theorem dX5_mayHave_21 : decode cX5_mayHave 21 = .ok (.iconst 0, 1) := by decide +kernel
theorem dX5_mayHave_22 : decode cX5_mayHave 22 = .ok (.ireturn, 1) := by decide +kernel
theorem dX5_setWays_0 : decode cX5_setWays 0 = .ok (.iconst 1, 1) := by decide +kernel
theorem dX5_setWays_1 : decode cX5_setWays 1 = .ok (.aload_n 0, 1) := by decide +kernel
theorem dX5_setWays_2 : decode cX5_setWays 2 = .ok (.getfield 78, 3) := by decide +kernel
theorem dX5_setWays_5 : decode cX5_setWays 5 = .ok (.ishl, 1) := by decide +kernel
theorem dX5_setWays_6 : decode cX5_setWays 6 = .ok (.iconst 1, 1) := by decide +kernel
theorem dX5_setWays_7 : decode cX5_setWays 7 = .ok (.isub, 1) := by decide +kernel
theorem dX5_setWays_8 : decode cX5_setWays 8 = .ok (.istore_n 1, 1) := by decide +kernel
theorem dX5_setWays_9 : decode cX5_setWays 9 = .ok (.aload_n 0, 1) := by decide +kernel
theorem dX5_setWays_10 : decode cX5_setWays 10 = .ok (.getfield 61, 3) := by decide +kernel
theorem dX5_setWays_13 : decode cX5_setWays 13 = .ok (.iload_n 1, 1) := by decide +kernel
theorem dX5_setWays_14 : decode cX5_setWays 14 = .ok (.iconst 1, 1) := by decide +kernel
theorem dX5_setWays_15 : decode cX5_setWays 15 = .ok (.iastore, 1) := by decide +kernel
theorem dX5_setWays_16 : decode cX5_setWays 16 = .ok (.iload_n 1, 1) := by decide +kernel
theorem dX5_setWays_17 : decode cX5_setWays 17 = .ok (.iconst 1, 1) := by decide +kernel
theorem dX5_setWays_18 : decode cX5_setWays 18 = .ok (.isub, 1) := by decide +kernel
theorem dX5_setWays_19 : decode cX5_setWays 19 = .ok (.istore_n 2, 1) := by decide +kernel
theorem dX5_setWays_20 : decode cX5_setWays 20 = .ok (.iload_n 2, 1) := by decide +kernel
theorem dX5_setWays_21 : decode cX5_setWays 21 = .ok (.ifCond .lt 82, 3) := by decide +kernel
theorem dX5_setWays_24 : decode cX5_setWays 24 = .ok (.iload_n 2, 1) := by decide +kernel
theorem dX5_setWays_25 : decode cX5_setWays 25 = .ok (.invokestatic 213, 3) := by decide +kernel
theorem dX5_setWays_28 : decode cX5_setWays 28 = .ok (.istore_n 3, 1) := by decide +kernel
theorem dX5_setWays_29 : decode cX5_setWays 29 = .ok (.aload_n 0, 1) := by decide +kernel
theorem dX5_setWays_30 : decode cX5_setWays 30 = .ok (.getfield 61, 3) := by decide +kernel
theorem dX5_setWays_33 : decode cX5_setWays 33 = .ok (.iload_n 2, 1) := by decide +kernel
theorem dX5_setWays_34 : decode cX5_setWays 34 = .ok (.iconst 0, 1) := by decide +kernel
theorem dX5_setWays_35 : decode cX5_setWays 35 = .ok (.iastore, 1) := by decide +kernel
theorem dX5_setWays_36 : decode cX5_setWays 36 = .ok (.iconst 0, 1) := by decide +kernel
theorem dX5_setWays_37 : decode cX5_setWays 37 = .ok (.istore 4, 2) := by decide +kernel
theorem dX5_setWays_39 : decode cX5_setWays 39 = .ok (.iload 4, 2) := by decide +kernel
theorem dX5_setWays_41 : decode cX5_setWays 41 = .ok (.aload_n 0, 1) := by decide +kernel
theorem dX5_setWays_42 : decode cX5_setWays 42 = .ok (.getfield 78, 3) := by decide +kernel
theorem dX5_setWays_45 : decode cX5_setWays 45 = .ok (.if_icmp .ge 52, 3) := by decide +kernel
theorem dX5_setWays_48 : decode cX5_setWays 48 = .ok (.aload_n 0, 1) := by decide +kernel
theorem dX5_setWays_49 : decode cX5_setWays 49 = .ok (.getfield 61, 3) := by decide +kernel
theorem dX5_setWays_52 : decode cX5_setWays 52 = .ok (.iload_n 2, 1) := by decide +kernel
theorem dX5_setWays_53 : decode cX5_setWays 53 = .ok (.dup2, 1) := by decide +kernel
theorem dX5_setWays_54 : decode cX5_setWays 54 = .ok (.iaload, 1) := by decide +kernel
theorem dX5_setWays_55 : decode cX5_setWays 55 = .ok (.iload_n 2, 1) := by decide +kernel
theorem dX5_setWays_56 : decode cX5_setWays 56 = .ok (.iload 4, 2) := by decide +kernel
theorem dX5_setWays_58 : decode cX5_setWays 58 = .ok (.invokestatic 149, 3) := by decide +kernel
theorem dX5_setWays_61 : decode cX5_setWays 61 = .ok (.ifCond .ne 27, 3) := by decide +kernel
theorem dX5_setWays_64 : decode cX5_setWays 64 = .ok (.aload_n 0, 1) := by decide +kernel
theorem dX5_setWays_65 : decode cX5_setWays 65 = .ok (.iload_n 3, 1) := by decide +kernel
theorem dX5_setWays_66 : decode cX5_setWays 66 = .ok (.iload 4, 2) := by decide +kernel
theorem dX5_setWays_68 : decode cX5_setWays 68 = .ok (.invokevirtual 225, 3) := by decide +kernel
theorem dX5_setWays_71 : decode cX5_setWays 71 = .ok (.ifCond .eq 17, 3) := by decide +kernel
theorem dX5_setWays_74 : decode cX5_setWays 74 = .ok (.aload_n 0, 1) := by decide +kernel
theorem dX5_setWays_75 : decode cX5_setWays 75 = .ok (.getfield 61, 3) := by decide +kernel
theorem dX5_setWays_78 : decode cX5_setWays 78 = .ok (.iload_n 2, 1) := by decide +kernel
theorem dX5_setWays_79 : decode cX5_setWays 79 = .ok (.iconst 1, 1) := by decide +kernel
theorem dX5_setWays_80 : decode cX5_setWays 80 = .ok (.iload 4, 2) := by decide +kernel
theorem dX5_setWays_82 : decode cX5_setWays 82 = .ok (.ishl, 1) := by decide +kernel
theorem dX5_setWays_83 : decode cX5_setWays 83 = .ok (.ior, 1) := by decide +kernel
theorem dX5_setWays_84 : decode cX5_setWays 84 = .ok (.iaload, 1) := by decide +kernel
theorem dX5_setWays_85 : decode cX5_setWays 85 = .ok (.goto 4, 3) := by decide +kernel
theorem dX5_setWays_88 : decode cX5_setWays 88 = .ok (.iconst 0, 1) := by decide +kernel
theorem dX5_setWays_89 : decode cX5_setWays 89 = .ok (.iadd, 1) := by decide +kernel
theorem dX5_setWays_90 : decode cX5_setWays 90 = .ok (.iastore, 1) := by decide +kernel
theorem dX5_setWays_91 : decode cX5_setWays 91 = .ok (.iinc 4 1, 3) := by decide +kernel
theorem dX5_setWays_94 : decode cX5_setWays 94 = .ok (.goto (-55), 3) := by decide +kernel
theorem dX5_setWays_97 : decode cX5_setWays 97 = .ok (.iinc 2 (-1), 3) := by decide +kernel
theorem dX5_setWays_100 : decode cX5_setWays 100 = .ok (.goto (-80), 3) := by decide +kernel
theorem dX5_setWays_103 : decode cX5_setWays 103 = .ok (.return_, 1) := by decide +kernel
theorem dX5_match_0 : decode cX5_match 0 = .ok (.iload_n 1, 1) := by decide +kernel
theorem dX5_match_1 : decode cX5_match 1 = .ok (.iconst (-1), 1) := by decide +kernel
theorem dX5_match_2 : decode cX5_match 2 = .ok (.aload_n 0, 1) := by decide +kernel
theorem dX5_match_3 : decode cX5_match 3 = .ok (.getfield 78, 3) := by decide +kernel
theorem dX5_match_6 : decode cX5_match 6 = .ok (.iconst 1, 1) := by decide +kernel
theorem dX5_match_7 : decode cX5_match 7 = .ok (.isub, 1) := by decide +kernel
theorem dX5_match_8 : decode cX5_match 8 = .ok (.invokestatic 81, 3) := by decide +kernel
theorem dX5_match_11 : decode cX5_match 11 = .ok (.ifCond .ne 5, 3) := by decide +kernel
theorem dX5_match_14 : decode cX5_match 14 = .ok (.iconst (-1), 1) := by decide +kernel
theorem dX5_match_15 : decode cX5_match 15 = .ok (.ireturn, 1) := by decide +kernel
theorem dX5_match_16 : decode cX5_match 16 = .ok (.aload_n 0, 1) := by decide +kernel
theorem dX5_match_17 : decode cX5_match 17 = .ok (.invokevirtual 228, 3) := by decide +kernel
theorem dX5_match_20 : decode cX5_match 20 = .ok (.iload_n 1, 1) := by decide +kernel
theorem dX5_match_21 : decode cX5_match 21 = .ok (.ifCond .lt 12, 3) := by decide +kernel
theorem dX5_match_24 : decode cX5_match 24 = .ok (.aload_n 0, 1) := by decide +kernel
theorem dX5_match_25 : decode cX5_match 25 = .ok (.getfield 61, 3) := by decide +kernel
theorem dX5_match_28 : decode cX5_match 28 = .ok (.iconst 0, 1) := by decide +kernel
theorem dX5_match_29 : decode cX5_match 29 = .ok (.iaload, 1) := by decide +kernel
theorem dX5_match_30 : decode cX5_match 30 = .ok (.ifCond .ne 19, 3) := by decide +kernel
theorem dX5_match_33 : decode cX5_match 33 = .ok (.iload_n 1, 1) := by decide +kernel
theorem dX5_match_34 : decode cX5_match 34 = .ok (.ifCond .ge 12, 3) := by decide +kernel
theorem dX5_match_37 : decode cX5_match 37 = .ok (.aload_n 0, 1) := by decide +kernel
theorem dX5_match_38 : decode cX5_match 38 = .ok (.getfield 61, 3) := by decide +kernel
theorem dX5_match_41 : decode cX5_match 41 = .ok (.iconst 0, 1) := by decide +kernel
theorem dX5_match_42 : decode cX5_match 42 = .ok (.iaload, 1) := by decide +kernel
theorem dX5_match_43 : decode cX5_match 43 = .ok (.goto 5, 3) := by decide +kernel
theorem dX5_match_46 : decode cX5_match 46 = .ok (.bipush (-4), 2) := by decide +kernel
theorem dX5_match_48 : decode cX5_match 48 = .ok (.ireturn, 1) := by decide +kernel
theorem dX5_match_49 : decode cX5_match 49 = .ok (.iconst 0, 1) := by decide +kernel
theorem dX5_match_50 : decode cX5_match 50 = .ok (.istore_n 2, 1) := by decide +kernel
theorem dX5_match_51 : decode cX5_match 51 = .ok (.iconst 0, 1) := by decide +kernel
theorem dX5_match_52 : decode cX5_match 52 = .ok (.istore_n 3, 1) := by decide +kernel
theorem dX5_match_53 : decode cX5_match 53 = .ok (.iconst 0, 1) := by decide +kernel
theorem dX5_match_54 : decode cX5_match 54 = .ok (.istore 4, 2) := by decide +kernel
theorem dX5_match_56 : decode cX5_match 56 = .ok (.iload 4, 2) := by decide +kernel
theorem dX5_match_58 : decode cX5_match 58 = .ok (.iload_n 1, 1) := by decide +kernel
theorem dX5_match_59 : decode cX5_match 59 = .ok (.if_icmp .gt 54, 3) := by decide +kernel
theorem dX5_match_62 : decode cX5_match 62 = .ok (.iconst 0, 1) := by decide +kernel
theorem dX5_match_63 : decode cX5_match 63 = .ok (.istore_n 3, 1) := by decide +kernel
theorem dX5_match_64 : decode cX5_match 64 = .ok (.iload_n 2, 1) := by decide +kernel
theorem dX5_match_65 : decode cX5_match 65 = .ok (.iload_n 3, 1) := by decide +kernel
theorem dX5_match_66 : decode cX5_match 66 = .ok (.invokestatic 149, 3) := by decide +kernel
theorem dX5_match_69 : decode cX5_match 69 = .ok (.ifCond .ne 26, 3) := by decide +kernel
theorem dX5_match_72 : decode cX5_match 72 = .ok (.aload_n 0, 1) := by decide +kernel
theorem dX5_match_73 : decode cX5_match 73 = .ok (.iload 4, 2) := by decide +kernel
theorem dX5_match_75 : decode cX5_match 75 = .ok (.iload_n 3, 1) := by decide +kernel
theorem dX5_match_76 : decode cX5_match 76 = .ok (.invokevirtual 225, 3) := by decide +kernel
theorem dX5_match_79 : decode cX5_match 79 = .ok (.ifCond .eq 16, 3) := by decide +kernel
theorem dX5_match_82 : decode cX5_match 82 = .ok (.aload_n 0, 1) := by decide +kernel
theorem dX5_match_83 : decode cX5_match 83 = .ok (.getfield 61, 3) := by decide +kernel
theorem dX5_match_86 : decode cX5_match 86 = .ok (.iload_n 2, 1) := by decide +kernel
theorem dX5_match_87 : decode cX5_match 87 = .ok (.iconst 1, 1) := by decide +kernel
theorem dX5_match_88 : decode cX5_match 88 = .ok (.iload_n 3, 1) := by decide +kernel
theorem dX5_match_89 : decode cX5_match 89 = .ok (.ishl, 1) := by decide +kernel
theorem dX5_match_90 : decode cX5_match 90 = .ok (.ior, 1) := by decide +kernel
theorem dX5_match_91 : decode cX5_match 91 = .ok (.iaload, 1) := by decide +kernel
theorem dX5_match_92 : decode cX5_match 92 = .ok (.ifCond .ne 9, 3) := by decide +kernel
theorem dX5_match_95 : decode cX5_match 95 = .ok (.iinc 3 1, 3) := by decide +kernel
theorem dX5_match_98 : decode cX5_match 98 = .ok (.goto (-34), 3) := by decide +kernel
theorem dX5_match_101 : decode cX5_match 101 = .ok (.iload_n 2, 1) := by decide +kernel
theorem dX5_match_102 : decode cX5_match 102 = .ok (.iconst 1, 1) := by decide +kernel
theorem dX5_match_103 : decode cX5_match 103 = .ok (.iload_n 3, 1) := by decide +kernel
theorem dX5_match_104 : decode cX5_match 104 = .ok (.ishl, 1) := by decide +kernel
theorem dX5_match_105 : decode cX5_match 105 = .ok (.ior, 1) := by decide +kernel
theorem dX5_match_106 : decode cX5_match 106 = .ok (.istore_n 2, 1) := by decide +kernel
theorem dX5_match_107 : decode cX5_match 107 = .ok (.iinc 4 1, 3) := by decide +kernel
theorem dX5_match_110 : decode cX5_match 110 = .ok (.goto (-54), 3) := by decide +kernel
theorem dX5_match_113 : decode cX5_match 113 = .ok (.iload_n 3, 1) := by decide +kernel
theorem dX5_match_114 : decode cX5_match 114 = .ok (.ireturn, 1) := by decide +kernel
theorem dX5_common_0 : decode cX5_common 0 = .ok (.lload_n 0, 1) := by decide +kernel
theorem dX5_common_1 : decode cX5_common 1 = .ok (.lstore 4, 2) := by decide +kernel
theorem dX5_common_3 : decode cX5_common 3 = .ok (.lload_n 2, 1) := by decide +kernel
theorem dX5_common_4 : decode cX5_common 4 = .ok (.lstore 6, 2) := by decide +kernel
theorem dX5_common_6 : decode cX5_common 6 = .ok (.lload 6, 2) := by decide +kernel
theorem dX5_common_8 : decode cX5_common 8 = .ok (.lconst 0, 1) := by decide +kernel
theorem dX5_common_9 : decode cX5_common 9 = .ok (.lcmp, 1) := by decide +kernel
theorem dX5_common_10 : decode cX5_common 10 = .ok (.ifCond .eq 21, 3) := by decide +kernel
theorem dX5_common_13 : decode cX5_common 13 = .ok (.lload 4, 2) := by decide +kernel
theorem dX5_common_15 : decode cX5_common 15 = .ok (.lload 6, 2) := by decide +kernel
theorem dX5_common_17 : decode cX5_common 17 = .ok (.lrem, 1) := by decide +kernel
theorem dX5_common_18 : decode cX5_common 18 = .ok (.lstore 8, 2) := by decide +kernel
theorem dX5_common_20 : decode cX5_common 20 = .ok (.lload 6, 2) := by decide +kernel
theorem dX5_common_22 : decode cX5_common 22 = .ok (.lstore 4, 2) := by decide +kernel
theorem dX5_common_24 : decode cX5_common 24 = .ok (.lload 8, 2) := by decide +kernel
theorem dX5_common_26 : decode cX5_common 26 = .ok (.lstore 6, 2) := by decide +kernel
theorem dX5_common_28 : decode cX5_common 28 = .ok (.goto (-22), 3) := by decide +kernel
theorem dX5_common_31 : decode cX5_common 31 = .ok (.lload 4, 2) := by decide +kernel
theorem dX5_common_33 : decode cX5_common 33 = .ok (.lreturn, 1) := by decide +kernel
theorem dX5_storms_0 : decode cX5_storms 0 = .ok (.aload_n 0, 1) := by decide +kernel
theorem dX5_storms_1 : decode cX5_storms 1 = .ok (.iload_n 1, 1) := by decide +kernel
theorem dX5_storms_2 : decode cX5_storms 2 = .ok (.invokevirtual 163, 3) := by decide +kernel
theorem dX5_storms_5 : decode cX5_storms 5 = .ok (.ifCond .eq 41, 3) := by decide +kernel
theorem dX5_storms_8 : decode cX5_storms 8 = .ok (.iload_n 2, 1) := by decide +kernel
theorem dX5_storms_9 : decode cX5_storms 9 = .ok (.invokestatic 170, 3) := by decide +kernel
theorem dX5_storms_12 : decode cX5_storms 12 = .ok (.ifCond .eq 34, 3) := by decide +kernel
theorem dX5_storms_15 : decode cX5_storms 15 = .ok (.iload_n 3, 1) := by decide +kernel
theorem dX5_storms_16 : decode cX5_storms 16 = .ok (.iconst 0, 1) := by decide +kernel
theorem dX5_storms_17 : decode cX5_storms 17 = .ok (.bipush 8, 2) := by decide +kernel
theorem dX5_storms_19 : decode cX5_storms 19 = .ok (.invokestatic 81, 3) := by decide +kernel
theorem dX5_storms_22 : decode cX5_storms 22 = .ok (.ifCond .eq 24, 3) := by decide +kernel
theorem dX5_storms_25 : decode cX5_storms 25 = .ok (.iload 4, 2) := by decide +kernel
theorem dX5_storms_27 : decode cX5_storms 27 = .ok (.iconst 0, 1) := by decide +kernel
theorem dX5_storms_28 : decode cX5_storms 28 = .ok (.bipush 10, 2) := by decide +kernel
theorem dX5_storms_30 : decode cX5_storms 30 = .ok (.invokestatic 81, 3) := by decide +kernel
theorem dX5_storms_33 : decode cX5_storms 33 = .ok (.ifCond .eq 13, 3) := by decide +kernel
theorem dX5_storms_36 : decode cX5_storms 36 = .ok (.iload 5, 2) := by decide +kernel
theorem dX5_storms_38 : decode cX5_storms 38 = .ok (.iconst 0, 1) := by decide +kernel
theorem dX5_storms_39 : decode cX5_storms 39 = .ok (.iconst 1, 1) := by decide +kernel
theorem dX5_storms_40 : decode cX5_storms 40 = .ok (.invokestatic 81, 3) := by decide +kernel
theorem dX5_storms_43 : decode cX5_storms 43 = .ok (.ifCond .ne 5, 3) := by decide +kernel
theorem dX5_storms_46 : decode cX5_storms 46 = .ok (.iconst (-1), 1) := by decide +kernel
theorem dX5_storms_47 : decode cX5_storms 47 = .ok (.ireturn, 1) := by decide +kernel
theorem dX5_storms_48 : decode cX5_storms 48 = .ok (.lconst 0, 1) := by decide +kernel
theorem dX5_storms_49 : decode cX5_storms 49 = .ok (.lstore 6, 2) := by decide +kernel
theorem dX5_storms_51 : decode cX5_storms 51 = .ok (.lconst 1, 1) := by decide +kernel
theorem dX5_storms_52 : decode cX5_storms 52 = .ok (.lstore 8, 2) := by decide +kernel
theorem dX5_storms_54 : decode cX5_storms 54 = .ok (.iconst 0, 1) := by decide +kernel
theorem dX5_storms_55 : decode cX5_storms 55 = .ok (.istore 10, 2) := by decide +kernel
theorem dX5_storms_57 : decode cX5_storms 57 = .ok (.iload 10, 2) := by decide +kernel
theorem dX5_storms_59 : decode cX5_storms 59 = .ok (.iload_n 3, 1) := by decide +kernel
theorem dX5_storms_60 : decode cX5_storms 60 = .ok (.if_icmp .ge 17, 3) := by decide +kernel
theorem dX5_storms_63 : decode cX5_storms 63 = .ok (.lload 8, 2) := by decide +kernel
theorem dX5_storms_65 : decode cX5_storms 65 = .ok (.ldc2_w 231, 3) := by decide +kernel
theorem dX5_storms_68 : decode cX5_storms 68 = .ok (.lmul, 1) := by decide +kernel
theorem dX5_storms_69 : decode cX5_storms 69 = .ok (.lstore 8, 2) := by decide +kernel
theorem dX5_storms_71 : decode cX5_storms 71 = .ok (.iinc 10 1, 3) := by decide +kernel
theorem dX5_storms_74 : decode cX5_storms 74 = .ok (.goto (-17), 3) := by decide +kernel
theorem dX5_storms_77 : decode cX5_storms 77 = .ok (.iconst 0, 1) := by decide +kernel
theorem dX5_storms_78 : decode cX5_storms 78 = .ok (.istore 10, 2) := by decide +kernel
theorem dX5_storms_80 : decode cX5_storms 80 = .ok (.iload 10, 2) := by decide +kernel
theorem dX5_storms_82 : decode cX5_storms 82 = .ok (.iconst 1, 1) := by decide +kernel
theorem dX5_storms_83 : decode cX5_storms 83 = .ok (.iload_n 3, 1) := by decide +kernel
theorem dX5_storms_84 : decode cX5_storms 84 = .ok (.ishl, 1) := by decide +kernel
theorem dX5_storms_85 : decode cX5_storms 85 = .ok (.if_icmp .ge 113, 3) := by decide +kernel
theorem dX5_storms_88 : decode cX5_storms 88 = .ok (.lconst 1, 1) := by decide +kernel
theorem dX5_storms_89 : decode cX5_storms 89 = .ok (.lstore 11, 2) := by decide +kernel
theorem dX5_storms_91 : decode cX5_storms 91 = .ok (.aload_n 0, 1) := by decide +kernel
theorem dX5_storms_92 : decode cX5_storms 92 = .ok (.invokevirtual 202, 3) := by decide +kernel
theorem dX5_storms_95 : decode cX5_storms 95 = .ok (.iconst 0, 1) := by decide +kernel
theorem dX5_storms_96 : decode cX5_storms 96 = .ok (.istore 13, 2) := by decide +kernel
theorem dX5_storms_98 : decode cX5_storms 98 = .ok (.iload 13, 2) := by decide +kernel
theorem dX5_storms_100 : decode cX5_storms 100 = .ok (.iload_n 3, 1) := by decide +kernel
theorem dX5_storms_101 : decode cX5_storms 101 = .ok (.if_icmp .ge 63, 3) := by decide +kernel
theorem dX5_storms_104 : decode cX5_storms 104 = .ok (.lload 11, 2) := by decide +kernel
theorem dX5_storms_106 : decode cX5_storms 106 = .ok (.iload 10, 2) := by decide +kernel
theorem dX5_storms_108 : decode cX5_storms 108 = .ok (.iload 13, 2) := by decide +kernel
theorem dX5_storms_110 : decode cX5_storms 110 = .ok (.invokestatic 149, 3) := by decide +kernel
theorem dX5_storms_113 : decode cX5_storms 113 = .ok (.ifCond .eq 9, 3) := by decide +kernel
theorem dX5_storms_116 : decode cX5_storms 116 = .ok (.iload 4, 2) := by decide +kernel
theorem dX5_storms_118 : decode cX5_storms 118 = .ok (.i2l, 1) := by decide +kernel
theorem dX5_storms_119 : decode cX5_storms 119 = .ok (.goto 9, 3) := by decide +kernel
theorem dX5_storms_122 : decode cX5_storms 122 = .ok (.bipush 10, 2) := by decide +kernel
theorem dX5_storms_124 : decode cX5_storms 124 = .ok (.iload 4, 2) := by decide +kernel
theorem dX5_storms_126 : decode cX5_storms 126 = .ok (.isub, 1) := by decide +kernel
theorem dX5_storms_127 : decode cX5_storms 127 = .ok (.i2l, 1) := by decide +kernel
theorem dX5_storms_128 : decode cX5_storms 128 = .ok (.lmul, 1) := by decide +kernel
theorem dX5_storms_129 : decode cX5_storms 129 = .ok (.lstore 11, 2) := by decide +kernel
theorem dX5_storms_131 : decode cX5_storms 131 = .ok (.aload_n 0, 1) := by decide +kernel
theorem dX5_storms_132 : decode cX5_storms 132 = .ok (.iload 10, 2) := by decide +kernel
theorem dX5_storms_134 : decode cX5_storms 134 = .ok (.iload 13, 2) := by decide +kernel
theorem dX5_storms_136 : decode cX5_storms 136 = .ok (.invokestatic 149, 3) := by decide +kernel
theorem dX5_storms_139 : decode cX5_storms 139 = .ok (.ifCond .eq 8, 3) := by decide +kernel
theorem dX5_storms_142 : decode cX5_storms 142 = .ok (.bipush 20, 2) := by decide +kernel
theorem dX5_storms_144 : decode cX5_storms 144 = .ok (.goto 11, 3) := by decide +kernel
theorem dX5_storms_147 : decode cX5_storms 147 = .ok (.aload_n 0, 1) := by decide +kernel
theorem dX5_storms_148 : decode cX5_storms 148 = .ok (.aload_n 0, 1) := by decide +kernel
theorem dX5_storms_149 : decode cX5_storms 149 = .ok (.getfield 133, 3) := by decide +kernel
theorem dX5_storms_152 : decode cX5_storms 152 = .ok (.invokevirtual 156, 3) := by decide +kernel
theorem dX5_storms_155 : decode cX5_storms 155 = .ok (.invokevirtual 159, 3) := by decide +kernel
theorem dX5_storms_158 : decode cX5_storms 158 = .ok (.iinc 13 1, 3) := by decide +kernel
theorem dX5_storms_161 : decode cX5_storms 161 = .ok (.goto (-63), 3) := by decide +kernel
theorem dX5_storms_164 : decode cX5_storms 164 = .ok (.lload 6, 2) := by decide +kernel
theorem dX5_storms_166 : decode cX5_storms 166 = .ok (.aload_n 0, 1) := by decide +kernel
theorem dX5_storms_167 : decode cX5_storms 167 = .ok (.getfield 19, 3) := by decide +kernel
theorem dX5_storms_170 : decode cX5_storms 170 = .ok (.iconst 5, 1) := by decide +kernel
theorem dX5_storms_171 : decode cX5_storms 171 = .ok (.iload_n 1, 1) := by decide +kernel
theorem dX5_storms_172 : decode cX5_storms 172 = .ok (.imul, 1) := by decide +kernel
theorem dX5_storms_173 : decode cX5_storms 173 = .ok (.iload_n 2, 1) := by decide +kernel
theorem dX5_storms_174 : decode cX5_storms 174 = .ok (.iadd, 1) := by decide +kernel
theorem dX5_storms_175 : decode cX5_storms 175 = .ok (.iaload, 1) := by decide +kernel
theorem dX5_storms_176 : decode cX5_storms 176 = .ok (.ifCond .le 8, 3) := by decide +kernel
theorem dX5_storms_179 : decode cX5_storms 179 = .ok (.lload 11, 2) := by decide +kernel
theorem dX5_storms_181 : decode cX5_storms 181 = .ok (.goto 4, 3) := by decide +kernel
theorem dX5_storms_184 : decode cX5_storms 184 = .ok (.lconst 0, 1) := by decide +kernel
theorem dX5_storms_185 : decode cX5_storms 185 = .ok (.ladd, 1) := by decide +kernel
theorem dX5_storms_186 : decode cX5_storms 186 = .ok (.lstore 6, 2) := by decide +kernel
theorem dX5_storms_188 : decode cX5_storms 188 = .ok (.aload_n 0, 1) := by decide +kernel
theorem dX5_storms_189 : decode cX5_storms 189 = .ok (.invokevirtual 205, 3) := by decide +kernel
theorem dX5_storms_192 : decode cX5_storms 192 = .ok (.iinc 10 1, 3) := by decide +kernel
theorem dX5_storms_195 : decode cX5_storms 195 = .ok (.goto (-115), 3) := by decide +kernel
theorem dX5_storms_198 : decode cX5_storms 198 = .ok (.lload 6, 2) := by decide +kernel
theorem dX5_storms_200 : decode cX5_storms 200 = .ok (.lload 8, 2) := by decide +kernel
theorem dX5_storms_202 : decode cX5_storms 202 = .ok (.invokestatic 233, 3) := by decide +kernel
theorem dX5_storms_205 : decode cX5_storms 205 = .ok (.lstore 10, 2) := by decide +kernel
theorem dX5_storms_207 : decode cX5_storms 207 = .ok (.iload 5, 2) := by decide +kernel
theorem dX5_storms_209 : decode cX5_storms 209 = .ok (.ifCond .ne 11, 3) := by decide +kernel
theorem dX5_storms_212 : decode cX5_storms 212 = .ok (.lload 6, 2) := by decide +kernel
theorem dX5_storms_214 : decode cX5_storms 214 = .ok (.lload 10, 2) := by decide +kernel
theorem dX5_storms_216 : decode cX5_storms 216 = .ok (.ldiv, 1) := by decide +kernel
theorem dX5_storms_217 : decode cX5_storms 217 = .ok (.goto 8, 3) := by decide +kernel
theorem dX5_storms_220 : decode cX5_storms 220 = .ok (.lload 8, 2) := by decide +kernel
theorem dX5_storms_222 : decode cX5_storms 222 = .ok (.lload 10, 2) := by decide +kernel
theorem dX5_storms_224 : decode cX5_storms 224 = .ok (.ldiv, 1) := by decide +kernel
theorem dX5_storms_225 : decode cX5_storms 225 = .ok (.l2i, 1) := by decide +kernel
theorem dX5_storms_226 : decode cX5_storms 226 = .ok (.ireturn, 1) := by decide +kernel
theorem dX5_onMany_0 : decode cX5_onMany 0 = .ok (.iconst 0, 1) := by decide +kernel
theorem dX5_onMany_1 : decode cX5_onMany 1 = .ok (.istore_n 1, 1) := by decide +kernel
theorem dX5_onMany_2 : decode cX5_onMany 2 = .ok (.iconst 0, 1) := by decide +kernel
theorem dX5_onMany_3 : decode cX5_onMany 3 = .ok (.istore_n 2, 1) := by decide +kernel
theorem dX5_onMany_4 : decode cX5_onMany 4 = .ok (.iload_n 2, 1) := by decide +kernel
theorem dX5_onMany_5 : decode cX5_onMany 5 = .ok (.iconst 5, 1) := by decide +kernel
theorem dX5_onMany_6 : decode cX5_onMany 6 = .ok (.aload_n 0, 1) := by decide +kernel
theorem dX5_onMany_7 : decode cX5_onMany 7 = .ok (.getfield 78, 3) := by decide +kernel
theorem dX5_onMany_10 : decode cX5_onMany 10 = .ok (.imul, 1) := by decide +kernel
theorem dX5_onMany_11 : decode cX5_onMany 11 = .ok (.if_icmp .ge 26, 3) := by decide +kernel
theorem dX5_onMany_14 : decode cX5_onMany 14 = .ok (.iload_n 1, 1) := by decide +kernel
theorem dX5_onMany_15 : decode cX5_onMany 15 = .ok (.aload_n 0, 1) := by decide +kernel
theorem dX5_onMany_16 : decode cX5_onMany 16 = .ok (.getfield 19, 3) := by decide +kernel
theorem dX5_onMany_19 : decode cX5_onMany 19 = .ok (.iload_n 2, 1) := by decide +kernel
theorem dX5_onMany_20 : decode cX5_onMany 20 = .ok (.iaload, 1) := by decide +kernel
theorem dX5_onMany_21 : decode cX5_onMany 21 = .ok (.ifCond .le 7, 3) := by decide +kernel
theorem dX5_onMany_24 : decode cX5_onMany 24 = .ok (.iconst 1, 1) := by decide +kernel
theorem dX5_onMany_25 : decode cX5_onMany 25 = .ok (.goto 4, 3) := by decide +kernel
theorem dX5_onMany_28 : decode cX5_onMany 28 = .ok (.iconst 0, 1) := by decide +kernel
theorem dX5_onMany_29 : decode cX5_onMany 29 = .ok (.iadd, 1) := by decide +kernel
theorem dX5_onMany_30 : decode cX5_onMany 30 = .ok (.istore_n 1, 1) := by decide +kernel
theorem dX5_onMany_31 : decode cX5_onMany 31 = .ok (.iinc 2 1, 3) := by decide +kernel
theorem dX5_onMany_34 : decode cX5_onMany 34 = .ok (.goto (-30), 3) := by decide +kernel
theorem dX5_onMany_37 : decode cX5_onMany 37 = .ok (.iload_n 1, 1) := by decide +kernel
theorem dX5_onMany_38 : decode cX5_onMany 38 = .ok (.ireturn, 1) := by decide +kernel
theorem dX5_century_0 : decode cX5_century 0 = .ok (.iload_n 1, 1) := by decide +kernel
theorem dX5_century_1 : decode cX5_century 1 = .ok (.iconst 0, 1) := by decide +kernel
theorem dX5_century_2 : decode cX5_century 2 = .ok (.sipush 9999, 3) := by decide +kernel
theorem dX5_century_5 : decode cX5_century 5 = .ok (.invokestatic 81, 3) := by decide +kernel
theorem dX5_century_8 : decode cX5_century 8 = .ok (.ifCond .eq 22, 3) := by decide +kernel
theorem dX5_century_11 : decode cX5_century 11 = .ok (.iload_n 2, 1) := by decide +kernel
theorem dX5_century_12 : decode cX5_century 12 = .ok (.iconst 1, 1) := by decide +kernel
theorem dX5_century_13 : decode cX5_century 13 = .ok (.bipush 60, 2) := by decide +kernel
theorem dX5_century_15 : decode cX5_century 15 = .ok (.invokestatic 81, 3) := by decide +kernel
theorem dX5_century_18 : decode cX5_century 18 = .ok (.ifCond .eq 12, 3) := by decide +kernel
theorem dX5_century_21 : decode cX5_century 21 = .ok (.iload_n 3, 1) := by decide +kernel
theorem dX5_century_22 : decode cX5_century 22 = .ok (.iconst 0, 1) := by decide +kernel
theorem dX5_century_23 : decode cX5_century 23 = .ok (.iconst 1, 1) := by decide +kernel
theorem dX5_century_24 : decode cX5_century 24 = .ok (.invokestatic 81, 3) := by decide +kernel
theorem dX5_century_27 : decode cX5_century 27 = .ok (.ifCond .ne 5, 3) := by decide +kernel
theorem dX5_century_30 : decode cX5_century 30 = .ok (.iconst (-1), 1) := by decide +kernel
theorem dX5_century_31 : decode cX5_century 31 = .ok (.ireturn, 1) := by decide +kernel
theorem dX5_century_32 : decode cX5_century 32 = .ok (.aload_n 0, 1) := by decide +kernel
theorem dX5_century_33 : decode cX5_century 33 = .ok (.invokevirtual 202, 3) := by decide +kernel
theorem dX5_century_36 : decode cX5_century 36 = .ok (.iconst 0, 1) := by decide +kernel
theorem dX5_century_37 : decode cX5_century 37 = .ok (.istore 4, 2) := by decide +kernel
theorem dX5_century_39 : decode cX5_century 39 = .ok (.iload 4, 2) := by decide +kernel
theorem dX5_century_41 : decode cX5_century 41 = .ok (.iload_n 2, 1) := by decide +kernel
theorem dX5_century_42 : decode cX5_century 42 = .ok (.if_icmp .ge 186, 3) := by decide +kernel
theorem dX5_century_45 : decode cX5_century 45 = .ok (.ldc2_w 237, 3) := by decide +kernel
theorem dX5_century_48 : decode cX5_century 48 = .ok (.iload_n 1, 1) := by decide +kernel
theorem dX5_century_49 : decode cX5_century 49 = .ok (.i2l, 1) := by decide +kernel
theorem dX5_century_50 : decode cX5_century 50 = .ok (.lmul, 1) := by decide +kernel
theorem dX5_century_51 : decode cX5_century 51 = .ok (.ldc2_w 239, 3) := by decide +kernel
theorem dX5_century_54 : decode cX5_century 54 = .ok (.iload 4, 2) := by decide +kernel
theorem dX5_century_56 : decode cX5_century 56 = .ok (.i2l, 1) := by decide +kernel
theorem dX5_century_57 : decode cX5_century 57 = .ok (.lmul, 1) := by decide +kernel
theorem dX5_century_58 : decode cX5_century 58 = .ok (.ladd, 1) := by decide +kernel
theorem dX5_century_59 : decode cX5_century 59 = .ok (.lconst 1, 1) := by decide +kernel
theorem dX5_century_60 : decode cX5_century 60 = .ok (.ladd, 1) := by decide +kernel
theorem dX5_century_61 : decode cX5_century 61 = .ok (.lstore 5, 2) := by decide +kernel
theorem dX5_century_63 : decode cX5_century 63 = .ok (.lload 5, 2) := by decide +kernel
theorem dX5_century_65 : decode cX5_century 65 = .ok (.lload 5, 2) := by decide +kernel
theorem dX5_century_67 : decode cX5_century 67 = .ok (.lmul, 1) := by decide +kernel
theorem dX5_century_68 : decode cX5_century 68 = .ok (.ldc2_w 241, 3) := by decide +kernel
theorem dX5_century_71 : decode cX5_century 71 = .ok (.lrem, 1) := by decide +kernel
theorem dX5_century_72 : decode cX5_century 72 = .ok (.l2i, 1) := by decide +kernel
theorem dX5_century_73 : decode cX5_century 73 = .ok (.istore 7, 2) := by decide +kernel
theorem dX5_century_75 : decode cX5_century 75 = .ok (.iload 7, 2) := by decide +kernel
theorem dX5_century_77 : decode cX5_century 77 = .ok (.bipush 8, 2) := by decide +kernel
theorem dX5_century_79 : decode cX5_century 79 = .ok (.idiv, 1) := by decide +kernel
theorem dX5_century_80 : decode cX5_century 80 = .ok (.aload_n 0, 1) := by decide +kernel
theorem dX5_century_81 : decode cX5_century 81 = .ok (.getfield 78, 3) := by decide +kernel
theorem dX5_century_84 : decode cX5_century 84 = .ok (.irem, 1) := by decide +kernel
theorem dX5_century_85 : decode cX5_century 85 = .ok (.istore 8, 2) := by decide +kernel
theorem dX5_century_87 : decode cX5_century 87 = .ok (.iload 7, 2) := by decide +kernel
theorem dX5_century_89 : decode cX5_century 89 = .ok (.bipush 64, 2) := by decide +kernel
theorem dX5_century_91 : decode cX5_century 91 = .ok (.idiv, 1) := by decide +kernel
theorem dX5_century_92 : decode cX5_century 92 = .ok (.iconst 5, 1) := by decide +kernel
theorem dX5_century_93 : decode cX5_century 93 = .ok (.irem, 1) := by decide +kernel
theorem dX5_century_94 : decode cX5_century 94 = .ok (.istore 9, 2) := by decide +kernel
theorem dX5_century_96 : decode cX5_century 96 = .ok (.iload 7, 2) := by decide +kernel
theorem dX5_century_98 : decode cX5_century 98 = .ok (.sipush 512, 3) := by decide +kernel
theorem dX5_century_101 : decode cX5_century 101 = .ok (.idiv, 1) := by decide +kernel
theorem dX5_century_102 : decode cX5_century 102 = .ok (.bipush 9, 2) := by decide +kernel
theorem dX5_century_104 : decode cX5_century 104 = .ok (.irem, 1) := by decide +kernel
theorem dX5_century_105 : decode cX5_century 105 = .ok (.iconst 1, 1) := by decide +kernel
theorem dX5_century_106 : decode cX5_century 106 = .ok (.iadd, 1) := by decide +kernel
theorem dX5_century_107 : decode cX5_century 107 = .ok (.istore 10, 2) := by decide +kernel
theorem dX5_century_109 : decode cX5_century 109 = .ok (.aload_n 0, 1) := by decide +kernel
theorem dX5_century_110 : decode cX5_century 110 = .ok (.getfield 19, 3) := by decide +kernel
theorem dX5_century_113 : decode cX5_century 113 = .ok (.iconst 5, 1) := by decide +kernel
theorem dX5_century_114 : decode cX5_century 114 = .ok (.iload 8, 2) := by decide +kernel
theorem dX5_century_116 : decode cX5_century 116 = .ok (.imul, 1) := by decide +kernel
theorem dX5_century_117 : decode cX5_century 117 = .ok (.iload 9, 2) := by decide +kernel
theorem dX5_century_119 : decode cX5_century 119 = .ok (.iadd, 1) := by decide +kernel
theorem dX5_century_120 : decode cX5_century 120 = .ok (.iaload, 1) := by decide +kernel
theorem dX5_century_121 : decode cX5_century 121 = .ok (.ifCond .le 7, 3) := by decide +kernel
theorem dX5_century_124 : decode cX5_century 124 = .ok (.iconst 1, 1) := by decide +kernel
theorem dX5_century_125 : decode cX5_century 125 = .ok (.goto 4, 3) := by decide +kernel
theorem dX5_century_128 : decode cX5_century 128 = .ok (.iconst 0, 1) := by decide +kernel
theorem dX5_century_129 : decode cX5_century 129 = .ok (.istore 11, 2) := by decide +kernel
theorem dX5_century_131 : decode cX5_century 131 = .ok (.iload 7, 2) := by decide +kernel
theorem dX5_century_133 : decode cX5_century 133 = .ok (.bipush 8, 2) := by decide +kernel
theorem dX5_century_135 : decode cX5_century 135 = .ok (.irem, 1) := by decide +kernel
theorem dX5_century_136 : decode cX5_century 136 = .ok (.iconst 3, 1) := by decide +kernel
theorem dX5_century_137 : decode cX5_century 137 = .ok (.if_icmp .ge 27, 3) := by decide +kernel
theorem dX5_century_140 : decode cX5_century 140 = .ok (.aload_n 0, 1) := by decide +kernel
theorem dX5_century_141 : decode cX5_century 141 = .ok (.iload 8, 2) := by decide +kernel
theorem dX5_century_143 : decode cX5_century 143 = .ok (.iload 9, 2) := by decide +kernel
theorem dX5_century_145 : decode cX5_century 145 = .ok (.invokevirtual 177, 3) := by decide +kernel
theorem dX5_century_148 : decode cX5_century 148 = .ok (.ifCond .eq 16, 3) := by decide +kernel
theorem dX5_century_151 : decode cX5_century 151 = .ok (.aload_n 0, 1) := by decide +kernel
theorem dX5_century_152 : decode cX5_century 152 = .ok (.iload 8, 2) := by decide +kernel
theorem dX5_century_154 : decode cX5_century 154 = .ok (.iload 9, 2) := by decide +kernel
theorem dX5_century_156 : decode cX5_century 156 = .ok (.iload 10, 2) := by decide +kernel
theorem dX5_century_158 : decode cX5_century 158 = .ok (.invokevirtual 183, 3) := by decide +kernel
theorem dX5_century_161 : decode cX5_century 161 = .ok (.goto 56, 3) := by decide +kernel
theorem dX5_century_164 : decode cX5_century 164 = .ok (.iload 7, 2) := by decide +kernel
theorem dX5_century_166 : decode cX5_century 166 = .ok (.bipush 8, 2) := by decide +kernel
theorem dX5_century_168 : decode cX5_century 168 = .ok (.irem, 1) := by decide +kernel
theorem dX5_century_169 : decode cX5_century 169 = .ok (.iconst 3, 1) := by decide +kernel
theorem dX5_century_170 : decode cX5_century 170 = .ok (.if_icmp .ne 19, 3) := by decide +kernel
theorem dX5_century_173 : decode cX5_century 173 = .ok (.iload 11, 2) := by decide +kernel
theorem dX5_century_175 : decode cX5_century 175 = .ok (.ifCond .eq 14, 3) := by decide +kernel
theorem dX5_century_178 : decode cX5_century 178 = .ok (.aload_n 0, 1) := by decide +kernel
theorem dX5_century_179 : decode cX5_century 179 = .ok (.iload 8, 2) := by decide +kernel
theorem dX5_century_181 : decode cX5_century 181 = .ok (.iload 9, 2) := by decide +kernel
theorem dX5_century_183 : decode cX5_century 183 = .ok (.invokevirtual 187, 3) := by decide +kernel
theorem dX5_century_186 : decode cX5_century 186 = .ok (.goto 31, 3) := by decide +kernel
theorem dX5_century_189 : decode cX5_century 189 = .ok (.iload 7, 2) := by decide +kernel
theorem dX5_century_191 : decode cX5_century 191 = .ok (.bipush 8, 2) := by decide +kernel
theorem dX5_century_193 : decode cX5_century 193 = .ok (.irem, 1) := by decide +kernel
theorem dX5_century_194 : decode cX5_century 194 = .ok (.iconst 4, 1) := by decide +kernel
theorem dX5_century_195 : decode cX5_century 195 = .ok (.if_icmp .ne 22, 3) := by decide +kernel
theorem dX5_century_198 : decode cX5_century 198 = .ok (.iload 11, 2) := by decide +kernel
theorem dX5_century_200 : decode cX5_century 200 = .ok (.ifCond .eq 17, 3) := by decide +kernel
theorem dX5_century_203 : decode cX5_century 203 = .ok (.aload_n 0, 1) := by decide +kernel
theorem dX5_century_204 : decode cX5_century 204 = .ok (.getfield 19, 3) := by decide +kernel
theorem dX5_century_207 : decode cX5_century 207 = .ok (.iconst 5, 1) := by decide +kernel
theorem dX5_century_208 : decode cX5_century 208 = .ok (.iload 8, 2) := by decide +kernel
theorem dX5_century_210 : decode cX5_century 210 = .ok (.imul, 1) := by decide +kernel
theorem dX5_century_211 : decode cX5_century 211 = .ok (.iload 9, 2) := by decide +kernel
theorem dX5_century_213 : decode cX5_century 213 = .ok (.iadd, 1) := by decide +kernel
theorem dX5_century_214 : decode cX5_century 214 = .ok (.iload 10, 2) := by decide +kernel
theorem dX5_century_216 : decode cX5_century 216 = .ok (.iastore, 1) := by decide +kernel
theorem dX5_century_217 : decode cX5_century 217 = .ok (.aload_n 0, 1) := by decide +kernel
theorem dX5_century_218 : decode cX5_century 218 = .ok (.iconst 1, 1) := by decide +kernel
theorem dX5_century_219 : decode cX5_century 219 = .ok (.invokevirtual 190, 3) := by decide +kernel
theorem dX5_century_222 : decode cX5_century 222 = .ok (.iinc 4 1, 3) := by decide +kernel
theorem dX5_century_225 : decode cX5_century 225 = .ok (.goto (-186), 3) := by decide +kernel
theorem dX5_century_228 : decode cX5_century 228 = .ok (.iload_n 3, 1) := by decide +kernel
theorem dX5_century_229 : decode cX5_century 229 = .ok (.ifCond .ne 10, 3) := by decide +kernel
theorem dX5_century_232 : decode cX5_century 232 = .ok (.aload_n 0, 1) := by decide +kernel
theorem dX5_century_233 : decode cX5_century 233 = .ok (.invokevirtual 243, 3) := by decide +kernel
theorem dX5_century_236 : decode cX5_century 236 = .ok (.goto 7, 3) := by decide +kernel
theorem dX5_century_239 : decode cX5_century 239 = .ok (.aload_n 0, 1) := by decide +kernel
theorem dX5_century_240 : decode cX5_century 240 = .ok (.invokevirtual 196, 3) := by decide +kernel
theorem dX5_century_243 : decode cX5_century 243 = .ok (.istore 4, 2) := by decide +kernel
theorem dX5_century_245 : decode cX5_century 245 = .ok (.aload_n 0, 1) := by decide +kernel
theorem dX5_century_246 : decode cX5_century 246 = .ok (.invokevirtual 205, 3) := by decide +kernel
theorem dX5_century_249 : decode cX5_century 249 = .ok (.iload 4, 2) := by decide +kernel
theorem dX5_century_251 : decode cX5_century 251 = .ok (.ireturn, 1) := by decide +kernel
theorem dX5_keep_0 : decode cX5_keep 0 = .ok (.aload_n 0, 1) := by decide +kernel
theorem dX5_keep_1 : decode cX5_keep 1 = .ok (.getfield 142, 3) := by decide +kernel
theorem dX5_keep_4 : decode cX5_keep 4 = .ok (.iconst 2, 1) := by decide +kernel
theorem dX5_keep_5 : decode cX5_keep 5 = .ok (.if_icmp .ne 6, 3) := by decide +kernel
theorem dX5_keep_8 : decode cX5_keep 8 = .ok (.bipush (-3), 2) := by decide +kernel
theorem dX5_keep_10 : decode cX5_keep 10 = .ok (.ireturn, 1) := by decide +kernel
theorem dX5_keep_11 : decode cX5_keep 11 = .ok (.aload_n 0, 1) := by decide +kernel
theorem dX5_keep_12 : decode cX5_keep 12 = .ok (.aload_n 0, 1) := by decide +kernel
theorem dX5_keep_13 : decode cX5_keep 13 = .ok (.getfield 64, 3) := by decide +kernel
theorem dX5_keep_16 : decode cX5_keep 16 = .ok (.bipush 42, 2) := by decide +kernel
theorem dX5_keep_18 : decode cX5_keep 18 = .ok (.aload_n 0, 1) := by decide +kernel
theorem dX5_keep_19 : decode cX5_keep 19 = .ok (.getfield 142, 3) := by decide +kernel
theorem dX5_keep_22 : decode cX5_keep 22 = .ok (.imul, 1) := by decide +kernel
theorem dX5_keep_23 : decode cX5_keep 23 = .ok (.invokevirtual 173, 3) := by decide +kernel
theorem dX5_keep_26 : decode cX5_keep 26 = .ok (.aload_n 0, 1) := by decide +kernel
theorem dX5_keep_27 : decode cX5_keep 27 = .ok (.dup, 1) := by decide +kernel
theorem dX5_keep_28 : decode cX5_keep 28 = .ok (.getfield 142, 3) := by decide +kernel
theorem dX5_keep_31 : decode cX5_keep 31 = .ok (.iconst 1, 1) := by decide +kernel
theorem dX5_keep_32 : decode cX5_keep 32 = .ok (.iadd, 1) := by decide +kernel
theorem dX5_keep_33 : decode cX5_keep 33 = .ok (.putfield 142, 3) := by decide +kernel
theorem dX5_keep_36 : decode cX5_keep 36 = .ok (.aload_n 0, 1) := by decide +kernel
theorem dX5_keep_37 : decode cX5_keep 37 = .ok (.getfield 142, 3) := by decide +kernel
theorem dX5_keep_40 : decode cX5_keep 40 = .ok (.ireturn, 1) := by decide +kernel
theorem dX5_back_0 : decode cX5_back 0 = .ok (.aload_n 0, 1) := by decide +kernel
theorem dX5_back_1 : decode cX5_back 1 = .ok (.getfield 142, 3) := by decide +kernel
theorem dX5_back_4 : decode cX5_back 4 = .ok (.ifCond .ne 6, 3) := by decide +kernel
theorem dX5_back_7 : decode cX5_back 7 = .ok (.bipush (-2), 2) := by decide +kernel
theorem dX5_back_9 : decode cX5_back 9 = .ok (.ireturn, 1) := by decide +kernel
theorem dX5_back_10 : decode cX5_back 10 = .ok (.aload_n 0, 1) := by decide +kernel
theorem dX5_back_11 : decode cX5_back 11 = .ok (.dup, 1) := by decide +kernel
theorem dX5_back_12 : decode cX5_back 12 = .ok (.getfield 142, 3) := by decide +kernel
theorem dX5_back_15 : decode cX5_back 15 = .ok (.iconst 1, 1) := by decide +kernel
theorem dX5_back_16 : decode cX5_back 16 = .ok (.isub, 1) := by decide +kernel
theorem dX5_back_17 : decode cX5_back 17 = .ok (.putfield 142, 3) := by decide +kernel
theorem dX5_back_20 : decode cX5_back 20 = .ok (.aload_n 0, 1) := by decide +kernel
theorem dX5_back_21 : decode cX5_back 21 = .ok (.aload_n 0, 1) := by decide +kernel
theorem dX5_back_22 : decode cX5_back 22 = .ok (.getfield 64, 3) := by decide +kernel
theorem dX5_back_25 : decode cX5_back 25 = .ok (.bipush 42, 2) := by decide +kernel
theorem dX5_back_27 : decode cX5_back 27 = .ok (.aload_n 0, 1) := by decide +kernel
theorem dX5_back_28 : decode cX5_back 28 = .ok (.getfield 142, 3) := by decide +kernel
theorem dX5_back_31 : decode cX5_back 31 = .ok (.imul, 1) := by decide +kernel
theorem dX5_back_32 : decode cX5_back 32 = .ok (.invokevirtual 193, 3) := by decide +kernel
theorem dX5_back_35 : decode cX5_back 35 = .ok (.aload_n 0, 1) := by decide +kernel
theorem dX5_back_36 : decode cX5_back 36 = .ok (.iconst 0, 1) := by decide +kernel
theorem dX5_back_37 : decode cX5_back 37 = .ok (.putfield 139, 3) := by decide +kernel
theorem dX5_back_40 : decode cX5_back 40 = .ok (.aload_n 0, 1) := by decide +kernel
theorem dX5_back_41 : decode cX5_back 41 = .ok (.getfield 142, 3) := by decide +kernel
theorem dX5_back_44 : decode cX5_back 44 = .ok (.ireturn, 1) := by decide +kernel
theorem dX5_storedAll_0 : decode cX5_storedAll 0 = .ok (.iconst 0, 1) := by decide +kernel
theorem dX5_storedAll_1 : decode cX5_storedAll 1 = .ok (.istore_n 1, 1) := by decide +kernel
theorem dX5_storedAll_2 : decode cX5_storedAll 2 = .ok (.iconst 0, 1) := by decide +kernel
theorem dX5_storedAll_3 : decode cX5_storedAll 3 = .ok (.istore_n 2, 1) := by decide +kernel
theorem dX5_storedAll_4 : decode cX5_storedAll 4 = .ok (.iload_n 2, 1) := by decide +kernel
theorem dX5_storedAll_5 : decode cX5_storedAll 5 = .ok (.iconst 5, 1) := by decide +kernel
theorem dX5_storedAll_6 : decode cX5_storedAll 6 = .ok (.if_icmp .ge 18, 3) := by decide +kernel
theorem dX5_storedAll_9 : decode cX5_storedAll 9 = .ok (.iload_n 1, 1) := by decide +kernel
theorem dX5_storedAll_10 : decode cX5_storedAll 10 = .ok (.aload_n 0, 1) := by decide +kernel
theorem dX5_storedAll_11 : decode cX5_storedAll 11 = .ok (.getfield 22, 3) := by decide +kernel
theorem dX5_storedAll_14 : decode cX5_storedAll 14 = .ok (.iload_n 2, 1) := by decide +kernel
theorem dX5_storedAll_15 : decode cX5_storedAll 15 = .ok (.iaload, 1) := by decide +kernel
theorem dX5_storedAll_16 : decode cX5_storedAll 16 = .ok (.iadd, 1) := by decide +kernel
theorem dX5_storedAll_17 : decode cX5_storedAll 17 = .ok (.istore_n 1, 1) := by decide +kernel
theorem dX5_storedAll_18 : decode cX5_storedAll 18 = .ok (.iinc 2 1, 3) := by decide +kernel
theorem dX5_storedAll_21 : decode cX5_storedAll 21 = .ok (.goto (-17), 3) := by decide +kernel
theorem dX5_storedAll_24 : decode cX5_storedAll 24 = .ok (.iload_n 1, 1) := by decide +kernel
theorem dX5_storedAll_25 : decode cX5_storedAll 25 = .ok (.ireturn, 1) := by decide +kernel
theorem dX5_pinsAll_0 : decode cX5_pinsAll 0 = .ok (.iconst 0, 1) := by decide +kernel
theorem dX5_pinsAll_1 : decode cX5_pinsAll 1 = .ok (.istore_n 1, 1) := by decide +kernel
theorem dX5_pinsAll_2 : decode cX5_pinsAll 2 = .ok (.iconst 0, 1) := by decide +kernel
theorem dX5_pinsAll_3 : decode cX5_pinsAll 3 = .ok (.istore_n 2, 1) := by decide +kernel
theorem dX5_pinsAll_4 : decode cX5_pinsAll 4 = .ok (.iload_n 2, 1) := by decide +kernel
theorem dX5_pinsAll_5 : decode cX5_pinsAll 5 = .ok (.iconst 5, 1) := by decide +kernel
theorem dX5_pinsAll_6 : decode cX5_pinsAll 6 = .ok (.aload_n 0, 1) := by decide +kernel
theorem dX5_pinsAll_7 : decode cX5_pinsAll 7 = .ok (.getfield 78, 3) := by decide +kernel
theorem dX5_pinsAll_10 : decode cX5_pinsAll 10 = .ok (.imul, 1) := by decide +kernel
theorem dX5_pinsAll_11 : decode cX5_pinsAll 11 = .ok (.if_icmp .ge 18, 3) := by decide +kernel
theorem dX5_pinsAll_14 : decode cX5_pinsAll 14 = .ok (.iload_n 1, 1) := by decide +kernel
theorem dX5_pinsAll_15 : decode cX5_pinsAll 15 = .ok (.aload_n 0, 1) := by decide +kernel
theorem dX5_pinsAll_16 : decode cX5_pinsAll 16 = .ok (.getfield 19, 3) := by decide +kernel
theorem dX5_pinsAll_19 : decode cX5_pinsAll 19 = .ok (.iload_n 2, 1) := by decide +kernel
theorem dX5_pinsAll_20 : decode cX5_pinsAll 20 = .ok (.iaload, 1) := by decide +kernel
theorem dX5_pinsAll_21 : decode cX5_pinsAll 21 = .ok (.iadd, 1) := by decide +kernel
theorem dX5_pinsAll_22 : decode cX5_pinsAll 22 = .ok (.istore_n 1, 1) := by decide +kernel
theorem dX5_pinsAll_23 : decode cX5_pinsAll 23 = .ok (.iinc 2 1, 3) := by decide +kernel
theorem dX5_pinsAll_26 : decode cX5_pinsAll 26 = .ok (.goto (-22), 3) := by decide +kernel
theorem dX5_pinsAll_29 : decode cX5_pinsAll 29 = .ok (.iload_n 1, 1) := by decide +kernel
theorem dX5_pinsAll_30 : decode cX5_pinsAll 30 = .ok (.ireturn, 1) := by decide +kernel
theorem dX5_ownKnown_0 : decode cX5_ownKnown 0 = .ok (.iconst 0, 1) := by decide +kernel
theorem dX5_ownKnown_1 : decode cX5_ownKnown 1 = .ok (.istore_n 1, 1) := by decide +kernel
theorem dX5_ownKnown_2 : decode cX5_ownKnown 2 = .ok (.iconst 0, 1) := by decide +kernel
theorem dX5_ownKnown_3 : decode cX5_ownKnown 3 = .ok (.istore_n 2, 1) := by decide +kernel
theorem dX5_ownKnown_4 : decode cX5_ownKnown 4 = .ok (.iload_n 2, 1) := by decide +kernel
theorem dX5_ownKnown_5 : decode cX5_ownKnown 5 = .ok (.aload_n 0, 1) := by decide +kernel
theorem dX5_ownKnown_6 : decode cX5_ownKnown 6 = .ok (.getfield 78, 3) := by decide +kernel
theorem dX5_ownKnown_9 : decode cX5_ownKnown 9 = .ok (.if_icmp .ge 26, 3) := by decide +kernel
theorem dX5_ownKnown_12 : decode cX5_ownKnown 12 = .ok (.iload_n 1, 1) := by decide +kernel
theorem dX5_ownKnown_13 : decode cX5_ownKnown 13 = .ok (.aload_n 0, 1) := by decide +kernel
theorem dX5_ownKnown_14 : decode cX5_ownKnown 14 = .ok (.iload_n 2, 1) := by decide +kernel
theorem dX5_ownKnown_15 : decode cX5_ownKnown 15 = .ok (.invokevirtual 199, 3) := by decide +kernel
theorem dX5_ownKnown_18 : decode cX5_ownKnown 18 = .ok (.iload_n 2, 1) := by decide +kernel
theorem dX5_ownKnown_19 : decode cX5_ownKnown 19 = .ok (.if_icmp .ne 7, 3) := by decide +kernel
theorem dX5_ownKnown_22 : decode cX5_ownKnown 22 = .ok (.iconst 1, 1) := by decide +kernel
theorem dX5_ownKnown_23 : decode cX5_ownKnown 23 = .ok (.goto 4, 3) := by decide +kernel
theorem dX5_ownKnown_26 : decode cX5_ownKnown 26 = .ok (.iconst 0, 1) := by decide +kernel
theorem dX5_ownKnown_27 : decode cX5_ownKnown 27 = .ok (.iadd, 1) := by decide +kernel
theorem dX5_ownKnown_28 : decode cX5_ownKnown 28 = .ok (.istore_n 1, 1) := by decide +kernel
theorem dX5_ownKnown_29 : decode cX5_ownKnown 29 = .ok (.iinc 2 1, 3) := by decide +kernel
theorem dX5_ownKnown_32 : decode cX5_ownKnown 32 = .ok (.goto (-28), 3) := by decide +kernel
theorem dX5_ownKnown_35 : decode cX5_ownKnown 35 = .ok (.iload_n 1, 1) := by decide +kernel
theorem dX5_ownKnown_36 : decode cX5_ownKnown 36 = .ok (.ireturn, 1) := by decide +kernel
theorem dX5_count_0 : decode cX5_count 0 = .ok (.iload_n 1, 1) := by decide +kernel
theorem dX5_count_1 : decode cX5_count 1 = .ok (.iconst 0, 1) := by decide +kernel
theorem dX5_count_2 : decode cX5_count 2 = .ok (.bipush 9, 2) := by decide +kernel
theorem dX5_count_4 : decode cX5_count 4 = .ok (.invokestatic 81, 3) := by decide +kernel
theorem dX5_count_7 : decode cX5_count 7 = .ok (.ifCond .ne 5, 3) := by decide +kernel
theorem dX5_count_10 : decode cX5_count 10 = .ok (.iconst (-1), 1) := by decide +kernel
theorem dX5_count_11 : decode cX5_count 11 = .ok (.ireturn, 1) := by decide +kernel
theorem dX5_count_12 : decode cX5_count 12 = .ok (.iload_n 1, 1) := by decide +kernel
theorem dX5_count_13 : decode cX5_count 13 = .ok (.tableswitch 96 0 8 #[51, 56, 61, 66, 71, 76, 81, 86, 91], 51) := by decide +kernel
theorem dX5_count_64 : decode cX5_count 64 = .ok (.aload_n 0, 1) := by decide +kernel
theorem dX5_count_65 : decode cX5_count 65 = .ok (.getfield 78, 3) := by decide +kernel
theorem dX5_count_68 : decode cX5_count 68 = .ok (.ireturn, 1) := by decide +kernel
theorem dX5_count_69 : decode cX5_count 69 = .ok (.aload_n 0, 1) := by decide +kernel
theorem dX5_count_70 : decode cX5_count 70 = .ok (.getfield 133, 3) := by decide +kernel
theorem dX5_count_73 : decode cX5_count 73 = .ok (.ireturn, 1) := by decide +kernel
theorem dX5_count_74 : decode cX5_count 74 = .ok (.aload_n 0, 1) := by decide +kernel
theorem dX5_count_75 : decode cX5_count 75 = .ok (.invokevirtual 243, 3) := by decide +kernel
theorem dX5_count_78 : decode cX5_count 78 = .ok (.ireturn, 1) := by decide +kernel
theorem dX5_count_79 : decode cX5_count 79 = .ok (.aload_n 0, 1) := by decide +kernel
theorem dX5_count_80 : decode cX5_count 80 = .ok (.invokevirtual 246, 3) := by decide +kernel
theorem dX5_count_83 : decode cX5_count 83 = .ok (.ireturn, 1) := by decide +kernel
theorem dX5_count_84 : decode cX5_count 84 = .ok (.aload_n 0, 1) := by decide +kernel
theorem dX5_count_85 : decode cX5_count 85 = .ok (.invokevirtual 249, 3) := by decide +kernel
theorem dX5_count_88 : decode cX5_count 88 = .ok (.ireturn, 1) := by decide +kernel
theorem dX5_count_89 : decode cX5_count 89 = .ok (.aload_n 0, 1) := by decide +kernel
theorem dX5_count_90 : decode cX5_count 90 = .ok (.invokevirtual 252, 3) := by decide +kernel
theorem dX5_count_93 : decode cX5_count 93 = .ok (.ireturn, 1) := by decide +kernel
theorem dX5_count_94 : decode cX5_count 94 = .ok (.aload_n 0, 1) := by decide +kernel
theorem dX5_count_95 : decode cX5_count 95 = .ok (.getfield 136, 3) := by decide +kernel
theorem dX5_count_98 : decode cX5_count 98 = .ok (.ireturn, 1) := by decide +kernel
theorem dX5_count_99 : decode cX5_count 99 = .ok (.aload_n 0, 1) := by decide +kernel
theorem dX5_count_100 : decode cX5_count 100 = .ok (.getfield 139, 3) := by decide +kernel
theorem dX5_count_103 : decode cX5_count 103 = .ok (.ireturn, 1) := by decide +kernel
theorem dX5_count_104 : decode cX5_count 104 = .ok (.aload_n 0, 1) := by decide +kernel
theorem dX5_count_105 : decode cX5_count 105 = .ok (.getfield 142, 3) := by decide +kernel
theorem dX5_count_108 : decode cX5_count 108 = .ok (.ireturn, 1) := by decide +kernel
theorem dX5_count_109 : decode cX5_count 109 = .ok (.aload_n 0, 1) := by decide +kernel
theorem dX5_count_110 : decode cX5_count 110 = .ok (.getfield 89, 3) := by decide +kernel
theorem dX5_count_113 : decode cX5_count 113 = .ok (.ireturn, 1) := by decide +kernel
