theorem dX10_init_0 : decode cX10_init 0 = .ok (.aload_n 0, 1) := by decide +kernel
theorem dX10_init_1 : decode cX10_init 1 = .ok (.invokespecial 1, 3) := by decide +kernel
theorem dX10_init_4 : decode cX10_init 4 = .ok (.aload_n 0, 1) := by decide +kernel
theorem dX10_init_5 : decode cX10_init 5 = .ok (.iconst 3, 1) := by decide +kernel
theorem dX10_init_6 : decode cX10_init 6 = .ok (.putfield 7, 3) := by decide +kernel
theorem dX10_init_9 : decode cX10_init 9 = .ok (.aload_n 0, 1) := by decide +kernel
theorem dX10_init_10 : decode cX10_init 10 = .ok (.bipush 20, 2) := by decide +kernel
theorem dX10_init_12 : decode cX10_init 12 = .ok (.newarray .int, 2) := by decide +kernel
theorem dX10_init_14 : decode cX10_init 14 = .ok (.putfield 13, 3) := by decide +kernel
theorem dX10_init_17 : decode cX10_init 17 = .ok (.aload_n 0, 1) := by decide +kernel
theorem dX10_init_18 : decode cX10_init 18 = .ok (.bipush 20, 2) := by decide +kernel
theorem dX10_init_20 : decode cX10_init 20 = .ok (.newarray .int, 2) := by decide +kernel
theorem dX10_init_22 : decode cX10_init 22 = .ok (.putfield 17, 3) := by decide +kernel
theorem dX10_init_25 : decode cX10_init 25 = .ok (.aload_n 0, 1) := by decide +kernel
theorem dX10_init_26 : decode cX10_init 26 = .ok (.bipush 100, 2) := by decide +kernel
theorem dX10_init_28 : decode cX10_init 28 = .ok (.newarray .int, 2) := by decide +kernel
theorem dX10_init_30 : decode cX10_init 30 = .ok (.putfield 20, 3) := by decide +kernel
theorem dX10_init_33 : decode cX10_init 33 = .ok (.aload_n 0, 1) := by decide +kernel
theorem dX10_init_34 : decode cX10_init 34 = .ok (.bipush 20, 2) := by decide +kernel
theorem dX10_init_36 : decode cX10_init 36 = .ok (.newarray .int, 2) := by decide +kernel
theorem dX10_init_38 : decode cX10_init 38 = .ok (.putfield 23, 3) := by decide +kernel
theorem dX10_init_41 : decode cX10_init 41 = .ok (.aload_n 0, 1) := by decide +kernel
theorem dX10_init_42 : decode cX10_init 42 = .ok (.bipush 20, 2) := by decide +kernel
theorem dX10_init_44 : decode cX10_init 44 = .ok (.newarray .int, 2) := by decide +kernel
theorem dX10_init_46 : decode cX10_init 46 = .ok (.putfield 26, 3) := by decide +kernel
theorem dX10_init_49 : decode cX10_init 49 = .ok (.aload_n 0, 1) := by decide +kernel
theorem dX10_init_50 : decode cX10_init 50 = .ok (.bipush 20, 2) := by decide +kernel
theorem dX10_init_52 : decode cX10_init 52 = .ok (.newarray .int, 2) := by decide +kernel
theorem dX10_init_54 : decode cX10_init 54 = .ok (.putfield 29, 3) := by decide +kernel
theorem dX10_init_57 : decode cX10_init 57 = .ok (.aload_n 0, 1) := by decide +kernel
theorem dX10_init_58 : decode cX10_init 58 = .ok (.bipush 20, 2) := by decide +kernel
theorem dX10_init_60 : decode cX10_init 60 = .ok (.newarray .int, 2) := by decide +kernel
theorem dX10_init_62 : decode cX10_init 62 = .ok (.putfield 32, 3) := by decide +kernel
theorem dX10_init_65 : decode cX10_init 65 = .ok (.aload_n 0, 1) := by decide +kernel
theorem dX10_init_66 : decode cX10_init 66 = .ok (.bipush 20, 2) := by decide +kernel
theorem dX10_init_68 : decode cX10_init 68 = .ok (.newarray .int, 2) := by decide +kernel
theorem dX10_init_70 : decode cX10_init 70 = .ok (.putfield 35, 3) := by decide +kernel
theorem dX10_init_73 : decode cX10_init 73 = .ok (.aload_n 0, 1) := by decide +kernel
theorem dX10_init_74 : decode cX10_init 74 = .ok (.bipush 20, 2) := by decide +kernel
theorem dX10_init_76 : decode cX10_init 76 = .ok (.newarray .int, 2) := by decide +kernel
theorem dX10_init_78 : decode cX10_init 78 = .ok (.putfield 38, 3) := by decide +kernel
theorem dX10_init_81 : decode cX10_init 81 = .ok (.aload_n 0, 1) := by decide +kernel
theorem dX10_init_82 : decode cX10_init 82 = .ok (.bipush 20, 2) := by decide +kernel
theorem dX10_init_84 : decode cX10_init 84 = .ok (.newarray .int, 2) := by decide +kernel
theorem dX10_init_86 : decode cX10_init 86 = .ok (.putfield 41, 3) := by decide +kernel
theorem dX10_init_89 : decode cX10_init 89 = .ok (.aload_n 0, 1) := by decide +kernel
theorem dX10_init_90 : decode cX10_init 90 = .ok (.bipush 20, 2) := by decide +kernel
theorem dX10_init_92 : decode cX10_init 92 = .ok (.newarray .boolean, 2) := by decide +kernel
theorem dX10_init_94 : decode cX10_init 94 = .ok (.putfield 44, 3) := by decide +kernel
theorem dX10_init_97 : decode cX10_init 97 = .ok (.aload_n 0, 1) := by decide +kernel
theorem dX10_init_98 : decode cX10_init 98 = .ok (.bipush 80, 2) := by decide +kernel
theorem dX10_init_100 : decode cX10_init 100 = .ok (.newarray .int, 2) := by decide +kernel
theorem dX10_init_102 : decode cX10_init 102 = .ok (.putfield 48, 3) := by decide +kernel
theorem dX10_init_105 : decode cX10_init 105 = .ok (.aload_n 0, 1) := by decide +kernel
theorem dX10_init_106 : decode cX10_init 106 = .ok (.sipush 9000, 3) := by decide +kernel
theorem dX10_init_109 : decode cX10_init 109 = .ok (.newarray .int, 2) := by decide +kernel
theorem dX10_init_111 : decode cX10_init 111 = .ok (.putfield 51, 3) := by decide +kernel
theorem dX10_init_114 : decode cX10_init 114 = .ok (.aload_n 0, 1) := by decide +kernel
theorem dX10_init_115 : decode cX10_init 115 = .ok (.bipush 8, 2) := by decide +kernel
theorem dX10_init_117 : decode cX10_init 117 = .ok (.newarray .int, 2) := by decide +kernel
theorem dX10_init_119 : decode cX10_init 119 = .ok (.putfield 54, 3) := by decide +kernel
theorem dX10_init_122 : decode cX10_init 122 = .ok (.aload_n 0, 1) := by decide +kernel
theorem dX10_init_123 : decode cX10_init 123 = .ok (.bipush 40, 2) := by decide +kernel
theorem dX10_init_125 : decode cX10_init 125 = .ok (.newarray .int, 2) := by decide +kernel
theorem dX10_init_127 : decode cX10_init 127 = .ok (.putfield 57, 3) := by decide +kernel
theorem dX10_init_130 : decode cX10_init 130 = .ok (.aload_n 0, 1) := by decide +kernel
theorem dX10_init_131 : decode cX10_init 131 = .ok (.bipush 8, 2) := by decide +kernel
theorem dX10_init_133 : decode cX10_init 133 = .ok (.newarray .int, 2) := by decide +kernel
theorem dX10_init_135 : decode cX10_init 135 = .ok (.putfield 60, 3) := by decide +kernel
theorem dX10_init_138 : decode cX10_init 138 = .ok (.aload_n 0, 1) := by decide +kernel
theorem dX10_init_139 : decode cX10_init 139 = .ok (.bipush 8, 2) := by decide +kernel
theorem dX10_init_141 : decode cX10_init 141 = .ok (.newarray .int, 2) := by decide +kernel
theorem dX10_init_143 : decode cX10_init 143 = .ok (.putfield 63, 3) := by decide +kernel
theorem dX10_init_146 : decode cX10_init 146 = .ok (.aload_n 0, 1) := by decide +kernel
theorem dX10_init_147 : decode cX10_init 147 = .ok (.bipush 8, 2) := by decide +kernel
theorem dX10_init_149 : decode cX10_init 149 = .ok (.newarray .int, 2) := by decide +kernel
theorem dX10_init_151 : decode cX10_init 151 = .ok (.putfield 66, 3) := by decide +kernel
theorem dX10_init_154 : decode cX10_init 154 = .ok (.aload_n 0, 1) := by decide +kernel
theorem dX10_init_155 : decode cX10_init 155 = .ok (.bipush 8, 2) := by decide +kernel
theorem dX10_init_157 : decode cX10_init 157 = .ok (.newarray .boolean, 2) := by decide +kernel
theorem dX10_init_159 : decode cX10_init 159 = .ok (.putfield 69, 3) := by decide +kernel
theorem dX10_init_162 : decode cX10_init 162 = .ok (.aload_n 0, 1) := by decide +kernel
theorem dX10_init_163 : decode cX10_init 163 = .ok (.iconst 5, 1) := by decide +kernel
theorem dX10_init_164 : decode cX10_init 164 = .ok (.newarray .int, 2) := by decide +kernel
theorem dX10_init_166 : decode cX10_init 166 = .ok (.dup, 1) := by decide +kernel
theorem dX10_init_167 : decode cX10_init 167 = .ok (.iconst 0, 1) := by decide +kernel
theorem dX10_init_168 : decode cX10_init 168 = .ok (.iconst 4, 1) := by decide +kernel
theorem dX10_init_169 : decode cX10_init 169 = .ok (.iastore, 1) := by decide +kernel
theorem dX10_init_170 : decode cX10_init 170 = .ok (.dup, 1) := by decide +kernel
theorem dX10_init_171 : decode cX10_init 171 = .ok (.iconst 1, 1) := by decide +kernel
theorem dX10_init_172 : decode cX10_init 172 = .ok (.iconst 4, 1) := by decide +kernel
theorem dX10_init_173 : decode cX10_init 173 = .ok (.iastore, 1) := by decide +kernel
theorem dX10_init_174 : decode cX10_init 174 = .ok (.dup, 1) := by decide +kernel
theorem dX10_init_175 : decode cX10_init 175 = .ok (.iconst 2, 1) := by decide +kernel
theorem dX10_init_176 : decode cX10_init 176 = .ok (.iconst 4, 1) := by decide +kernel
theorem dX10_init_177 : decode cX10_init 177 = .ok (.iastore, 1) := by decide +kernel
theorem dX10_init_178 : decode cX10_init 178 = .ok (.dup, 1) := by decide +kernel
theorem dX10_init_179 : decode cX10_init 179 = .ok (.iconst 3, 1) := by decide +kernel
theorem dX10_init_180 : decode cX10_init 180 = .ok (.iconst 4, 1) := by decide +kernel
theorem dX10_init_181 : decode cX10_init 181 = .ok (.iastore, 1) := by decide +kernel
theorem dX10_init_182 : decode cX10_init 182 = .ok (.dup, 1) := by decide +kernel
theorem dX10_init_183 : decode cX10_init 183 = .ok (.iconst 4, 1) := by decide +kernel
theorem dX10_init_184 : decode cX10_init 184 = .ok (.iconst 4, 1) := by decide +kernel
theorem dX10_init_185 : decode cX10_init 185 = .ok (.iastore, 1) := by decide +kernel
theorem dX10_init_186 : decode cX10_init 186 = .ok (.putfield 72, 3) := by decide +kernel
theorem dX10_init_189 : decode cX10_init 189 = .ok (.aload_n 0, 1) := by decide +kernel
theorem dX10_init_190 : decode cX10_init 190 = .ok (.bipush 16, 2) := by decide +kernel
theorem dX10_init_192 : decode cX10_init 192 = .ok (.newarray .int, 2) := by decide +kernel
theorem dX10_init_194 : decode cX10_init 194 = .ok (.putfield 75, 3) := by decide +kernel
theorem dX10_init_197 : decode cX10_init 197 = .ok (.aload_n 0, 1) := by decide +kernel
theorem dX10_init_198 : decode cX10_init 198 = .ok (.bipush 16, 2) := by decide +kernel
theorem dX10_init_200 : decode cX10_init 200 = .ok (.newarray .int, 2) := by decide +kernel
theorem dX10_init_202 : decode cX10_init 202 = .ok (.putfield 78, 3) := by decide +kernel
theorem dX10_init_205 : decode cX10_init 205 = .ok (.aload_n 0, 1) := by decide +kernel
theorem dX10_init_206 : decode cX10_init 206 = .ok (.iconst 4, 1) := by decide +kernel
theorem dX10_init_207 : decode cX10_init 207 = .ok (.newarray .int, 2) := by decide +kernel
theorem dX10_init_209 : decode cX10_init 209 = .ok (.dup, 1) := by decide +kernel
theorem dX10_init_210 : decode cX10_init 210 = .ok (.iconst 0, 1) := by decide +kernel
theorem dX10_init_211 : decode cX10_init 211 = .ok (.bipush 12, 2) := by decide +kernel
theorem dX10_init_213 : decode cX10_init 213 = .ok (.iastore, 1) := by decide +kernel
theorem dX10_init_214 : decode cX10_init 214 = .ok (.dup, 1) := by decide +kernel
theorem dX10_init_215 : decode cX10_init 215 = .ok (.iconst 1, 1) := by decide +kernel
theorem dX10_init_216 : decode cX10_init 216 = .ok (.bipush 12, 2) := by decide +kernel
theorem dX10_init_218 : decode cX10_init 218 = .ok (.iastore, 1) := by decide +kernel
theorem dX10_init_219 : decode cX10_init 219 = .ok (.dup, 1) := by decide +kernel
theorem dX10_init_220 : decode cX10_init 220 = .ok (.iconst 2, 1) := by decide +kernel
theorem dX10_init_221 : decode cX10_init 221 = .ok (.bipush 12, 2) := by decide +kernel
theorem dX10_init_223 : decode cX10_init 223 = .ok (.iastore, 1) := by decide +kernel
theorem dX10_init_224 : decode cX10_init 224 = .ok (.dup, 1) := by decide +kernel
theorem dX10_init_225 : decode cX10_init 225 = .ok (.iconst 3, 1) := by decide +kernel
theorem dX10_init_226 : decode cX10_init 226 = .ok (.bipush 12, 2) := by decide +kernel
theorem dX10_init_228 : decode cX10_init 228 = .ok (.iastore, 1) := by decide +kernel
theorem dX10_init_229 : decode cX10_init 229 = .ok (.putfield 81, 3) := by decide +kernel
theorem dX10_init_232 : decode cX10_init 232 = .ok (.aload_n 0, 1) := by decide +kernel
theorem dX10_init_233 : decode cX10_init 233 = .ok (.bipush 60, 2) := by decide +kernel
theorem dX10_init_235 : decode cX10_init 235 = .ok (.newarray .int, 2) := by decide +kernel
theorem dX10_init_237 : decode cX10_init 237 = .ok (.putfield 84, 3) := by decide +kernel
theorem dX10_init_240 : decode cX10_init 240 = .ok (.aload_n 0, 1) := by decide +kernel
theorem dX10_init_241 : decode cX10_init 241 = .ok (.bipush 60, 2) := by decide +kernel
theorem dX10_init_243 : decode cX10_init 243 = .ok (.newarray .int, 2) := by decide +kernel
theorem dX10_init_245 : decode cX10_init 245 = .ok (.putfield 87, 3) := by decide +kernel
theorem dX10_init_248 : decode cX10_init 248 = .ok (.aload_n 0, 1) := by decide +kernel
theorem dX10_init_249 : decode cX10_init 249 = .ok (.bipush 20, 2) := by decide +kernel
theorem dX10_init_251 : decode cX10_init 251 = .ok (.newarray .int, 2) := by decide +kernel
theorem dX10_init_253 : decode cX10_init 253 = .ok (.putfield 90, 3) := by decide +kernel
theorem dX10_init_256 : decode cX10_init 256 = .ok (.aload_n 0, 1) := by decide +kernel
theorem dX10_init_257 : decode cX10_init 257 = .ok (.bipush 6, 2) := by decide +kernel
theorem dX10_init_259 : decode cX10_init 259 = .ok (.newarray .int, 2) := by decide +kernel
theorem dX10_init_261 : decode cX10_init 261 = .ok (.putfield 93, 3) := by decide +kernel
theorem dX10_init_264 : decode cX10_init 264 = .ok (.aload_n 0, 1) := by decide +kernel
theorem dX10_init_265 : decode cX10_init 265 = .ok (.bipush 8, 2) := by decide +kernel
theorem dX10_init_267 : decode cX10_init 267 = .ok (.newarray .int, 2) := by decide +kernel
theorem dX10_init_269 : decode cX10_init 269 = .ok (.putfield 96, 3) := by decide +kernel
theorem dX10_init_272 : decode cX10_init 272 = .ok (.aload_n 0, 1) := by decide +kernel
theorem dX10_init_273 : decode cX10_init 273 = .ok (.sipush 256, 3) := by decide +kernel
theorem dX10_init_276 : decode cX10_init 276 = .ok (.newarray .int, 2) := by decide +kernel
theorem dX10_init_278 : decode cX10_init 278 = .ok (.putfield 99, 3) := by decide +kernel
theorem dX10_init_281 : decode cX10_init 281 = .ok (.aload_n 0, 1) := by decide +kernel
theorem dX10_init_282 : decode cX10_init 282 = .ok (.sipush 256, 3) := by decide +kernel
theorem dX10_init_285 : decode cX10_init 285 = .ok (.newarray .int, 2) := by decide +kernel
theorem dX10_init_287 : decode cX10_init 287 = .ok (.putfield 102, 3) := by decide +kernel
theorem dX10_init_290 : decode cX10_init 290 = .ok (.aload_n 0, 1) := by decide +kernel
theorem dX10_init_291 : decode cX10_init 291 = .ok (.sipush 160, 3) := by decide +kernel
theorem dX10_init_294 : decode cX10_init 294 = .ok (.newarray .int, 2) := by decide +kernel
theorem dX10_init_296 : decode cX10_init 296 = .ok (.putfield 105, 3) := by decide +kernel
theorem dX10_init_299 : decode cX10_init 299 = .ok (.aload_n 0, 1) := by decide +kernel
theorem dX10_init_300 : decode cX10_init 300 = .ok (.bipush 10, 2) := by decide +kernel
theorem dX10_init_302 : decode cX10_init 302 = .ok (.newarray .int, 2) := by decide +kernel
theorem dX10_init_304 : decode cX10_init 304 = .ok (.putfield 108, 3) := by decide +kernel
theorem dX10_init_307 : decode cX10_init 307 = .ok (.aload_n 0, 1) := by decide +kernel
theorem dX10_init_308 : decode cX10_init 308 = .ok (.sipush 1024, 3) := by decide +kernel
theorem dX10_init_311 : decode cX10_init 311 = .ok (.newarray .int, 2) := by decide +kernel
theorem dX10_init_313 : decode cX10_init 313 = .ok (.putfield 111, 3) := by decide +kernel
theorem dX10_init_316 : decode cX10_init 316 = .ok (.aload_n 0, 1) := by decide +kernel
theorem dX10_init_317 : decode cX10_init 317 = .ok (.sipush 1024, 3) := by decide +kernel
theorem dX10_init_320 : decode cX10_init 320 = .ok (.newarray .boolean, 2) := by decide +kernel
theorem dX10_init_322 : decode cX10_init 322 = .ok (.putfield 114, 3) := by decide +kernel
theorem dX10_init_325 : decode cX10_init 325 = .ok (.aload_n 0, 1) := by decide +kernel
theorem dX10_init_326 : decode cX10_init 326 = .ok (.sipush 3721, 3) := by decide +kernel
theorem dX10_init_329 : decode cX10_init 329 = .ok (.newarray .long, 2) := by decide +kernel
theorem dX10_init_331 : decode cX10_init 331 = .ok (.putfield 117, 3) := by decide +kernel
theorem dX10_init_334 : decode cX10_init 334 = .ok (.aload_n 0, 1) := by decide +kernel
theorem dX10_init_335 : decode cX10_init 335 = .ok (.iconst 0, 1) := by decide +kernel
theorem dX10_init_336 : decode cX10_init 336 = .ok (.putfield 121, 3) := by decide +kernel
theorem dX10_init_339 : decode cX10_init 339 = .ok (.return_, 1) := by decide +kernel
theorem dX10_finding_0 : decode cX10_finding 0 = .ok (.aload_n 0, 1) := by decide +kernel
theorem dX10_finding_1 : decode cX10_finding 1 = .ok (.getfield 93, 3) := by decide +kernel
theorem dX10_finding_4 : decode cX10_finding 4 = .ok (.iload_n 1, 1) := by decide +kernel
theorem dX10_finding_5 : decode cX10_finding 5 = .ok (.dup2, 1) := by decide +kernel
theorem dX10_finding_6 : decode cX10_finding 6 = .ok (.iaload, 1) := by decide +kernel
theorem dX10_finding_7 : decode cX10_finding 7 = .ok (.iconst 1, 1) := by decide +kernel
theorem dX10_finding_8 : decode cX10_finding 8 = .ok (.iadd, 1) := by decide +kernel
theorem dX10_finding_9 : decode cX10_finding 9 = .ok (.iastore, 1) := by decide +kernel
theorem dX10_finding_10 : decode cX10_finding 10 = .ok (.ldc 124, 2) := by decide +kernel
theorem dX10_finding_12 : decode cX10_finding 12 = .ok (.iload_n 1, 1) := by decide +kernel
theorem dX10_finding_13 : decode cX10_finding 13 = .ok (.isub, 1) := by decide +kernel
theorem dX10_finding_14 : decode cX10_finding 14 = .ok (.ireturn, 1) := by decide +kernel
theorem dX10_isIn_0 : decode cX10_isIn 0 = .ok (.iload_n 0, 1) := by decide +kernel
theorem dX10_isIn_1 : decode cX10_isIn 1 = .ok (.iload_n 1, 1) := by decide +kernel
theorem dX10_isIn_2 : decode cX10_isIn 2 = .ok (.if_icmp .lt 12, 3) := by decide +kernel
theorem dX10_isIn_5 : decode cX10_isIn 5 = .ok (.iload_n 0, 1) := by decide +kernel
theorem dX10_isIn_6 : decode cX10_isIn 6 = .ok (.iload_n 2, 1) := by decide +kernel
theorem dX10_isIn_7 : decode cX10_isIn 7 = .ok (.if_icmp .gt 7, 3) := by decide +kernel
theorem dX10_isIn_10 : decode cX10_isIn 10 = .ok (.iconst 1, 1) := by decide +kernel
theorem dX10_isIn_11 : decode cX10_isIn 11 = .ok (.goto 4, 3) := by decide +kernel
theorem dX10_isIn_14 : decode cX10_isIn 14 = .ok (.iconst 0, 1) := by decide +kernel
theorem dX10_isIn_15 : decode cX10_isIn 15 = .ok (.ireturn, 1) := by decide +kernel
theorem dX10_isThing_0 : decode cX10_isThing 0 = .ok (.iload_n 1, 1) := by decide +kernel
theorem dX10_isThing_1 : decode cX10_isThing 1 = .ok (.ifCond .lt 15, 3) := by decide +kernel
theorem dX10_isThing_4 : decode cX10_isThing 4 = .ok (.iload_n 1, 1) := by decide +kernel
theorem dX10_isThing_5 : decode cX10_isThing 5 = .ok (.aload_n 0, 1) := by decide +kernel
theorem dX10_isThing_6 : decode cX10_isThing 6 = .ok (.getfield 125, 3) := by decide +kernel
theorem dX10_isThing_9 : decode cX10_isThing 9 = .ok (.if_icmp .ge 7, 3) := by decide +kernel
theorem dX10_isThing_12 : decode cX10_isThing 12 = .ok (.iconst 1, 1) := by decide +kernel
theorem dX10_isThing_13 : decode cX10_isThing 13 = .ok (.goto 4, 3) := by decide +kernel
theorem dX10_isThing_16 : decode cX10_isThing 16 = .ok (.iconst 0, 1) := by decide +kernel
theorem dX10_isThing_17 : decode cX10_isThing 17 = .ok (.ireturn, 1) := by decide +kernel
theorem dX10_isSeeker_0 : decode cX10_isSeeker 0 = .ok (.iload_n 1, 1) := by decide +kernel
theorem dX10_isSeeker_1 : decode cX10_isSeeker 1 = .ok (.ifCond .lt 15, 3) := by decide +kernel
theorem dX10_isSeeker_4 : decode cX10_isSeeker 4 = .ok (.iload_n 1, 1) := by decide +kernel
theorem dX10_isSeeker_5 : decode cX10_isSeeker 5 = .ok (.aload_n 0, 1) := by decide +kernel
theorem dX10_isSeeker_6 : decode cX10_isSeeker 6 = .ok (.getfield 128, 3) := by decide +kernel
theorem dX10_isSeeker_9 : decode cX10_isSeeker 9 = .ok (.if_icmp .ge 7, 3) := by decide +kernel
theorem dX10_isSeeker_12 : decode cX10_isSeeker 12 = .ok (.iconst 1, 1) := by decide +kernel
theorem dX10_isSeeker_13 : decode cX10_isSeeker 13 = .ok (.goto 4, 3) := by decide +kernel
theorem dX10_isSeeker_16 : decode cX10_isSeeker 16 = .ok (.iconst 0, 1) := by decide +kernel
theorem dX10_isSeeker_17 : decode cX10_isSeeker 17 = .ok (.ireturn, 1) := by decide +kernel
theorem dX10_isTrait_0 : decode cX10_isTrait 0 = .ok (.iload_n 0, 1) := by decide +kernel
theorem dX10_isTrait_1 : decode cX10_isTrait 1 = .ok (.iconst 0, 1) := by decide +kernel
theorem dX10_isTrait_2 : decode cX10_isTrait 2 = .ok (.iconst 4, 1) := by decide +kernel
theorem dX10_isTrait_3 : decode cX10_isTrait 3 = .ok (.invokestatic 131, 3) := by decide +kernel
theorem dX10_isTrait_6 : decode cX10_isTrait 6 = .ok (.ireturn, 1) := by decide +kernel
theorem dX10_becomes_0 : decode cX10_becomes 0 = .ok (.aload_n 0, 1) := by decide +kernel
theorem dX10_becomes_1 : decode cX10_becomes 1 = .ok (.getfield 32, 3) := by decide +kernel
theorem dX10_becomes_4 : decode cX10_becomes 4 = .ok (.iload_n 1, 1) := by decide +kernel
theorem dX10_becomes_5 : decode cX10_becomes 5 = .ok (.iload_n 2, 1) := by decide +kernel
theorem dX10_becomes_6 : decode cX10_becomes 6 = .ok (.iastore, 1) := by decide +kernel
theorem dX10_becomes_7 : decode cX10_becomes 7 = .ok (.aload_n 0, 1) := by decide +kernel
theorem dX10_becomes_8 : decode cX10_becomes 8 = .ok (.getfield 38, 3) := by decide +kernel
theorem dX10_becomes_11 : decode cX10_becomes 11 = .ok (.iload_n 1, 1) := by decide +kernel
theorem dX10_becomes_12 : decode cX10_becomes 12 = .ok (.aload_n 0, 1) := by decide +kernel
theorem dX10_becomes_13 : decode cX10_becomes 13 = .ok (.getfield 121, 3) := by decide +kernel
theorem dX10_becomes_16 : decode cX10_becomes 16 = .ok (.iastore, 1) := by decide +kernel
theorem dX10_becomes_17 : decode cX10_becomes 17 = .ok (.aload_n 0, 1) := by decide +kernel
theorem dX10_becomes_18 : decode cX10_becomes 18 = .ok (.getfield 51, 3) := by decide +kernel
theorem dX10_becomes_21 : decode cX10_becomes 21 = .ok (.iconst 3, 1) := by decide +kernel
theorem dX10_becomes_22 : decode cX10_becomes 22 = .ok (.aload_n 0, 1) := by decide +kernel
theorem dX10_becomes_23 : decode cX10_becomes 23 = .ok (.getfield 135, 3) := by decide +kernel
theorem dX10_becomes_26 : decode cX10_becomes 26 = .ok (.imul, 1) := by decide +kernel
theorem dX10_becomes_27 : decode cX10_becomes 27 = .ok (.iload_n 1, 1) := by decide +kernel
theorem dX10_becomes_28 : decode cX10_becomes 28 = .ok (.iastore, 1) := by decide +kernel
theorem dX10_becomes_29 : decode cX10_becomes 29 = .ok (.aload_n 0, 1) := by decide +kernel
theorem dX10_becomes_30 : decode cX10_becomes 30 = .ok (.getfield 51, 3) := by decide +kernel
theorem dX10_becomes_33 : decode cX10_becomes 33 = .ok (.iconst 3, 1) := by decide +kernel
theorem dX10_becomes_34 : decode cX10_becomes 34 = .ok (.aload_n 0, 1) := by decide +kernel
theorem dX10_becomes_35 : decode cX10_becomes 35 = .ok (.getfield 135, 3) := by decide +kernel
theorem dX10_becomes_38 : decode cX10_becomes 38 = .ok (.imul, 1) := by decide +kernel
theorem dX10_becomes_39 : decode cX10_becomes 39 = .ok (.iconst 1, 1) := by decide +kernel
theorem dX10_becomes_40 : decode cX10_becomes 40 = .ok (.iadd, 1) := by decide +kernel
theorem dX10_becomes_41 : decode cX10_becomes 41 = .ok (.aload_n 0, 1) := by decide +kernel
theorem dX10_becomes_42 : decode cX10_becomes 42 = .ok (.getfield 121, 3) := by decide +kernel
theorem dX10_becomes_45 : decode cX10_becomes 45 = .ok (.iastore, 1) := by decide +kernel
theorem dX10_becomes_46 : decode cX10_becomes 46 = .ok (.aload_n 0, 1) := by decide +kernel
theorem dX10_becomes_47 : decode cX10_becomes 47 = .ok (.getfield 51, 3) := by decide +kernel
theorem dX10_becomes_50 : decode cX10_becomes 50 = .ok (.iconst 3, 1) := by decide +kernel
theorem dX10_becomes_51 : decode cX10_becomes 51 = .ok (.aload_n 0, 1) := by decide +kernel
theorem dX10_becomes_52 : decode cX10_becomes 52 = .ok (.getfield 135, 3) := by decide +kernel
theorem dX10_becomes_55 : decode cX10_becomes 55 = .ok (.imul, 1) := by decide +kernel
theorem dX10_becomes_56 : decode cX10_becomes 56 = .ok (.iconst 2, 1) := by decide +kernel
theorem dX10_becomes_57 : decode cX10_becomes 57 = .ok (.iadd, 1) := by decide +kernel
theorem dX10_becomes_58 : decode cX10_becomes 58 = .ok (.iload_n 2, 1) := by decide +kernel
theorem dX10_becomes_59 : decode cX10_becomes 59 = .ok (.iastore, 1) := by decide +kernel
theorem dX10_becomes_60 : decode cX10_becomes 60 = .ok (.aload_n 0, 1) := by decide +kernel
theorem dX10_becomes_61 : decode cX10_becomes 61 = .ok (.dup, 1) := by decide +kernel
theorem dX10_becomes_62 : decode cX10_becomes 62 = .ok (.getfield 135, 3) := by decide +kernel
theorem dX10_becomes_65 : decode cX10_becomes 65 = .ok (.iconst 1, 1) := by decide +kernel
theorem dX10_becomes_66 : decode cX10_becomes 66 = .ok (.iadd, 1) := by decide +kernel
theorem dX10_becomes_67 : decode cX10_becomes 67 = .ok (.putfield 135, 3) := by decide +kernel
theorem dX10_becomes_70 : decode cX10_becomes 70 = .ok (.return_, 1) := by decide +kernel
theorem dX10_spoils_0 : decode cX10_spoils 0 = .ok (.aload_n 0, 1) := by decide +kernel
theorem dX10_spoils_1 : decode cX10_spoils 1 = .ok (.getfield 13, 3) := by decide +kernel
theorem dX10_spoils_4 : decode cX10_spoils 4 = .ok (.iload_n 1, 1) := by decide +kernel
theorem dX10_spoils_5 : decode cX10_spoils 5 = .ok (.iaload, 1) := by decide +kernel
theorem dX10_spoils_6 : decode cX10_spoils 6 = .ok (.iconst 2, 1) := by decide +kernel
theorem dX10_spoils_7 : decode cX10_spoils 7 = .ok (.if_icmp .ne 34, 3) := by decide +kernel
theorem dX10_spoils_10 : decode cX10_spoils 10 = .ok (.aload_n 0, 1) := by decide +kernel
theorem dX10_spoils_11 : decode cX10_spoils 11 = .ok (.getfield 32, 3) := by decide +kernel
theorem dX10_spoils_14 : decode cX10_spoils 14 = .ok (.iload_n 1, 1) := by decide +kernel
theorem dX10_spoils_15 : decode cX10_spoils 15 = .ok (.iaload, 1) := by decide +kernel
theorem dX10_spoils_16 : decode cX10_spoils 16 = .ok (.ifCond .ne 25, 3) := by decide +kernel
theorem dX10_spoils_19 : decode cX10_spoils 19 = .ok (.aload_n 0, 1) := by decide +kernel
theorem dX10_spoils_20 : decode cX10_spoils 20 = .ok (.getfield 121, 3) := by decide +kernel
theorem dX10_spoils_23 : decode cX10_spoils 23 = .ok (.aload_n 0, 1) := by decide +kernel
theorem dX10_spoils_24 : decode cX10_spoils 24 = .ok (.getfield 17, 3) := by decide +kernel
theorem dX10_spoils_27 : decode cX10_spoils 27 = .ok (.iload_n 1, 1) := by decide +kernel
theorem dX10_spoils_28 : decode cX10_spoils 28 = .ok (.iaload, 1) := by decide +kernel
theorem dX10_spoils_29 : decode cX10_spoils 29 = .ok (.isub, 1) := by decide +kernel
theorem dX10_spoils_30 : decode cX10_spoils 30 = .ok (.aload_n 0, 1) := by decide +kernel
theorem dX10_spoils_31 : decode cX10_spoils 31 = .ok (.getfield 7, 3) := by decide +kernel
theorem dX10_spoils_34 : decode cX10_spoils 34 = .ok (.if_icmp .lt 7, 3) := by decide +kernel
theorem dX10_spoils_37 : decode cX10_spoils 37 = .ok (.iconst 1, 1) := by decide +kernel
theorem dX10_spoils_38 : decode cX10_spoils 38 = .ok (.goto 4, 3) := by decide +kernel
theorem dX10_spoils_41 : decode cX10_spoils 41 = .ok (.iconst 0, 1) := by decide +kernel
theorem dX10_spoils_42 : decode cX10_spoils 42 = .ok (.ireturn, 1) := by decide +kernel
theorem dX10_thing_0 : decode cX10_thing 0 = .ok (.iload_n 1, 1) := by decide +kernel
theorem dX10_thing_1 : decode cX10_thing 1 = .ok (.iconst 0, 1) := by decide +kernel
theorem dX10_thing_2 : decode cX10_thing 2 = .ok (.iconst 3, 1) := by decide +kernel
theorem dX10_thing_3 : decode cX10_thing 3 = .ok (.invokestatic 131, 3) := by decide +kernel
theorem dX10_thing_6 : decode cX10_thing 6 = .ok (.ifCond .eq 50, 3) := by decide +kernel
theorem dX10_thing_9 : decode cX10_thing 9 = .ok (.iload_n 2, 1) := by decide +kernel
theorem dX10_thing_10 : decode cX10_thing 10 = .ok (.iconst 0, 1) := by decide +kernel
theorem dX10_thing_11 : decode cX10_thing 11 = .ok (.aload_n 0, 1) := by decide +kernel
theorem dX10_thing_12 : decode cX10_thing 12 = .ok (.getfield 121, 3) := by decide +kernel
theorem dX10_thing_15 : decode cX10_thing 15 = .ok (.invokestatic 131, 3) := by decide +kernel
theorem dX10_thing_18 : decode cX10_thing 18 = .ok (.ifCond .eq 38, 3) := by decide +kernel
theorem dX10_thing_21 : decode cX10_thing 21 = .ok (.iload_n 3, 1) := by decide +kernel
theorem dX10_thing_22 : decode cX10_thing 22 = .ok (.iconst 1, 1) := by decide +kernel
theorem dX10_thing_23 : decode cX10_thing 23 = .ok (.sipush 5000, 3) := by decide +kernel
theorem dX10_thing_26 : decode cX10_thing 26 = .ok (.invokestatic 131, 3) := by decide +kernel
theorem dX10_thing_29 : decode cX10_thing 29 = .ok (.ifCond .eq 27, 3) := by decide +kernel
theorem dX10_thing_32 : decode cX10_thing 32 = .ok (.iload 4, 2) := by decide +kernel
theorem dX10_thing_34 : decode cX10_thing 34 = .ok (.iconst 0, 1) := by decide +kernel
theorem dX10_thing_35 : decode cX10_thing 35 = .ok (.sipush 10000, 3) := by decide +kernel
theorem dX10_thing_38 : decode cX10_thing 38 = .ok (.invokestatic 131, 3) := by decide +kernel
theorem dX10_thing_41 : decode cX10_thing 41 = .ok (.ifCond .eq 15, 3) := by decide +kernel
theorem dX10_thing_44 : decode cX10_thing 44 = .ok (.iload 5, 2) := by decide +kernel
theorem dX10_thing_46 : decode cX10_thing 46 = .ok (.iconst 1, 1) := by decide +kernel
theorem dX10_thing_47 : decode cX10_thing 47 = .ok (.sipush 9999, 3) := by decide +kernel
theorem dX10_thing_50 : decode cX10_thing 50 = .ok (.invokestatic 131, 3) := by decide +kernel
theorem dX10_thing_53 : decode cX10_thing 53 = .ok (.ifCond .ne 9, 3) := by decide +kernel
theorem dX10_thing_56 : decode cX10_thing 56 = .ok (.aload_n 0, 1) := by decide +kernel
theorem dX10_thing_57 : decode cX10_thing 57 = .ok (.iconst 1, 1) := by decide +kernel
theorem dX10_thing_58 : decode cX10_thing 58 = .ok (.invokevirtual 138, 3) := by decide +kernel
theorem dX10_thing_61 : decode cX10_thing 61 = .ok (.ireturn, 1) := by decide +kernel
theorem dX10_thing_62 : decode cX10_thing 62 = .ok (.aload_n 0, 1) := by decide +kernel
theorem dX10_thing_63 : decode cX10_thing 63 = .ok (.getfield 125, 3) := by decide +kernel
theorem dX10_thing_66 : decode cX10_thing 66 = .ok (.bipush 20, 2) := by decide +kernel
theorem dX10_thing_68 : decode cX10_thing 68 = .ok (.if_icmp .ne 9, 3) := by decide +kernel
theorem dX10_thing_71 : decode cX10_thing 71 = .ok (.aload_n 0, 1) := by decide +kernel
theorem dX10_thing_72 : decode cX10_thing 72 = .ok (.iconst 4, 1) := by decide +kernel
theorem dX10_thing_73 : decode cX10_thing 73 = .ok (.invokevirtual 138, 3) := by decide +kernel
theorem dX10_thing_76 : decode cX10_thing 76 = .ok (.ireturn, 1) := by decide +kernel
theorem dX10_thing_77 : decode cX10_thing 77 = .ok (.aload_n 0, 1) := by decide +kernel
theorem dX10_thing_78 : decode cX10_thing 78 = .ok (.getfield 125, 3) := by decide +kernel
theorem dX10_thing_81 : decode cX10_thing 81 = .ok (.istore 6, 2) := by decide +kernel
theorem dX10_thing_83 : decode cX10_thing 83 = .ok (.aload_n 0, 1) := by decide +kernel
theorem dX10_thing_84 : decode cX10_thing 84 = .ok (.getfield 13, 3) := by decide +kernel
theorem dX10_thing_87 : decode cX10_thing 87 = .ok (.iload 6, 2) := by decide +kernel
theorem dX10_thing_89 : decode cX10_thing 89 = .ok (.iload_n 1, 1) := by decide +kernel
theorem dX10_thing_90 : decode cX10_thing 90 = .ok (.iastore, 1) := by decide +kernel
theorem dX10_thing_91 : decode cX10_thing 91 = .ok (.aload_n 0, 1) := by decide +kernel
theorem dX10_thing_92 : decode cX10_thing 92 = .ok (.getfield 17, 3) := by decide +kernel
theorem dX10_thing_95 : decode cX10_thing 95 = .ok (.iload 6, 2) := by decide +kernel
theorem dX10_thing_97 : decode cX10_thing 97 = .ok (.iload_n 2, 1) := by decide +kernel
theorem dX10_thing_98 : decode cX10_thing 98 = .ok (.iastore, 1) := by decide +kernel
theorem dX10_thing_99 : decode cX10_thing 99 = .ok (.aload_n 0, 1) := by decide +kernel
theorem dX10_thing_100 : decode cX10_thing 100 = .ok (.getfield 23, 3) := by decide +kernel
theorem dX10_thing_103 : decode cX10_thing 103 = .ok (.iload 6, 2) := by decide +kernel
theorem dX10_thing_105 : decode cX10_thing 105 = .ok (.iload_n 3, 1) := by decide +kernel
theorem dX10_thing_106 : decode cX10_thing 106 = .ok (.iastore, 1) := by decide +kernel
theorem dX10_thing_107 : decode cX10_thing 107 = .ok (.aload_n 0, 1) := by decide +kernel
theorem dX10_thing_108 : decode cX10_thing 108 = .ok (.getfield 26, 3) := by decide +kernel
theorem dX10_thing_111 : decode cX10_thing 111 = .ok (.iload 6, 2) := by decide +kernel
theorem dX10_thing_113 : decode cX10_thing 113 = .ok (.iload 4, 2) := by decide +kernel
theorem dX10_thing_115 : decode cX10_thing 115 = .ok (.iastore, 1) := by decide +kernel
theorem dX10_thing_116 : decode cX10_thing 116 = .ok (.aload_n 0, 1) := by decide +kernel
theorem dX10_thing_117 : decode cX10_thing 117 = .ok (.getfield 29, 3) := by decide +kernel
theorem dX10_thing_120 : decode cX10_thing 120 = .ok (.iload 6, 2) := by decide +kernel
theorem dX10_thing_122 : decode cX10_thing 122 = .ok (.iload 5, 2) := by decide +kernel
theorem dX10_thing_124 : decode cX10_thing 124 = .ok (.iastore, 1) := by decide +kernel
theorem dX10_thing_125 : decode cX10_thing 125 = .ok (.aload_n 0, 1) := by decide +kernel
theorem dX10_thing_126 : decode cX10_thing 126 = .ok (.getfield 35, 3) := by decide +kernel
theorem dX10_thing_129 : decode cX10_thing 129 = .ok (.iload 6, 2) := by decide +kernel
theorem dX10_thing_131 : decode cX10_thing 131 = .ok (.iconst (-1), 1) := by decide +kernel
theorem dX10_thing_132 : decode cX10_thing 132 = .ok (.iastore, 1) := by decide +kernel
theorem dX10_thing_133 : decode cX10_thing 133 = .ok (.iconst 0, 1) := by decide +kernel
theorem dX10_thing_134 : decode cX10_thing 134 = .ok (.istore 7, 2) := by decide +kernel
theorem dX10_thing_136 : decode cX10_thing 136 = .ok (.iload 7, 2) := by decide +kernel
theorem dX10_thing_138 : decode cX10_thing 138 = .ok (.iconst 4, 1) := by decide +kernel
theorem dX10_thing_139 : decode cX10_thing 139 = .ok (.if_icmp .ge 22, 3) := by decide +kernel
theorem dX10_thing_142 : decode cX10_thing 142 = .ok (.aload_n 0, 1) := by decide +kernel
theorem dX10_thing_143 : decode cX10_thing 143 = .ok (.getfield 48, 3) := by decide +kernel
theorem dX10_thing_146 : decode cX10_thing 146 = .ok (.iconst 4, 1) := by decide +kernel
theorem dX10_thing_147 : decode cX10_thing 147 = .ok (.iload 6, 2) := by decide +kernel
theorem dX10_thing_149 : decode cX10_thing 149 = .ok (.imul, 1) := by decide +kernel
theorem dX10_thing_150 : decode cX10_thing 150 = .ok (.iload 7, 2) := by decide +kernel
theorem dX10_thing_152 : decode cX10_thing 152 = .ok (.iadd, 1) := by decide +kernel
theorem dX10_thing_153 : decode cX10_thing 153 = .ok (.iconst (-1), 1) := by decide +kernel
theorem dX10_thing_154 : decode cX10_thing 154 = .ok (.iastore, 1) := by decide +kernel
theorem dX10_thing_155 : decode cX10_thing 155 = .ok (.iinc 7 1, 3) := by decide +kernel
theorem dX10_thing_158 : decode cX10_thing 158 = .ok (.goto (-22), 3) := by decide +kernel
theorem dX10_thing_161 : decode cX10_thing 161 = .ok (.aload_n 0, 1) := by decide +kernel
theorem dX10_thing_162 : decode cX10_thing 162 = .ok (.dup, 1) := by decide +kernel
theorem dX10_thing_163 : decode cX10_thing 163 = .ok (.getfield 125, 3) := by decide +kernel
theorem dX10_thing_166 : decode cX10_thing 166 = .ok (.iconst 1, 1) := by decide +kernel
theorem dX10_thing_167 : decode cX10_thing 167 = .ok (.iadd, 1) := by decide +kernel
theorem dX10_thing_168 : decode cX10_thing 168 = .ok (.putfield 125, 3) := by decide +kernel
theorem dX10_thing_171 : decode cX10_thing 171 = .ok (.aload_n 0, 1) := by decide +kernel
theorem dX10_thing_172 : decode cX10_thing 172 = .ok (.iload 6, 2) := by decide +kernel
theorem dX10_thing_174 : decode cX10_thing 174 = .ok (.iconst 0, 1) := by decide +kernel
theorem dX10_thing_175 : decode cX10_thing 175 = .ok (.invokevirtual 142, 3) := by decide +kernel
theorem dX10_thing_178 : decode cX10_thing 178 = .ok (.aload_n 0, 1) := by decide +kernel
theorem dX10_thing_179 : decode cX10_thing 179 = .ok (.iload 6, 2) := by decide +kernel
theorem dX10_thing_181 : decode cX10_thing 181 = .ok (.invokevirtual 146, 3) := by decide +kernel
theorem dX10_thing_184 : decode cX10_thing 184 = .ok (.ifCond .eq 10, 3) := by decide +kernel
theorem dX10_thing_187 : decode cX10_thing 187 = .ok (.aload_n 0, 1) := by decide +kernel
theorem dX10_thing_188 : decode cX10_thing 188 = .ok (.iload 6, 2) := by decide +kernel
theorem dX10_thing_190 : decode cX10_thing 190 = .ok (.iconst 3, 1) := by decide +kernel
theorem dX10_thing_191 : decode cX10_thing 191 = .ok (.invokevirtual 142, 3) := by decide +kernel
theorem dX10_thing_194 : decode cX10_thing 194 = .ok (.iload 6, 2) := by decide +kernel
theorem dX10_thing_196 : decode cX10_thing 196 = .ok (.ireturn, 1) := by decide +kernel
theorem dX10_as_0 : decode cX10_as 0 = .ok (.aload_n 0, 1) := by decide +kernel
theorem dX10_as_1 : decode cX10_as 1 = .ok (.iload_n 1, 1) := by decide +kernel
theorem dX10_as_2 : decode cX10_as 2 = .ok (.invokevirtual 150, 3) := by decide +kernel
theorem dX10_as_5 : decode cX10_as 5 = .ok (.ifCond .eq 12, 3) := by decide +kernel
theorem dX10_as_8 : decode cX10_as 8 = .ok (.iload_n 2, 1) := by decide +kernel
theorem dX10_as_9 : decode cX10_as 9 = .ok (.iconst 0, 1) := by decide +kernel
theorem dX10_as_10 : decode cX10_as 10 = .ok (.iconst 3, 1) := by decide +kernel
theorem dX10_as_11 : decode cX10_as 11 = .ok (.invokestatic 131, 3) := by decide +kernel
theorem dX10_as_14 : decode cX10_as 14 = .ok (.ifCond .ne 9, 3) := by decide +kernel
theorem dX10_as_17 : decode cX10_as 17 = .ok (.aload_n 0, 1) := by decide +kernel
theorem dX10_as_18 : decode cX10_as 18 = .ok (.iconst 1, 1) := by decide +kernel
theorem dX10_as_19 : decode cX10_as 19 = .ok (.invokevirtual 138, 3) := by decide +kernel
theorem dX10_as_22 : decode cX10_as 22 = .ok (.ireturn, 1) := by decide +kernel
theorem dX10_as_23 : decode cX10_as 23 = .ok (.iload_n 2, 1) := by decide +kernel
theorem dX10_as_24 : decode cX10_as 24 = .ok (.ifCond .eq 13, 3) := by decide +kernel
theorem dX10_as_27 : decode cX10_as 27 = .ok (.aload_n 0, 1) := by decide +kernel
theorem dX10_as_28 : decode cX10_as 28 = .ok (.getfield 13, 3) := by decide +kernel
theorem dX10_as_31 : decode cX10_as 31 = .ok (.iload_n 1, 1) := by decide +kernel
theorem dX10_as_32 : decode cX10_as 32 = .ok (.iaload, 1) := by decide +kernel
theorem dX10_as_33 : decode cX10_as 33 = .ok (.iload_n 2, 1) := by decide +kernel
theorem dX10_as_34 : decode cX10_as 34 = .ok (.if_icmp .ne 12, 3) := by decide +kernel
theorem dX10_as_37 : decode cX10_as 37 = .ok (.aload_n 0, 1) := by decide +kernel
theorem dX10_as_38 : decode cX10_as 38 = .ok (.getfield 23, 3) := by decide +kernel
theorem dX10_as_41 : decode cX10_as 41 = .ok (.iload_n 1, 1) := by decide +kernel
theorem dX10_as_42 : decode cX10_as 42 = .ok (.iaload, 1) := by decide +kernel
theorem dX10_as_43 : decode cX10_as 43 = .ok (.goto 8, 3) := by decide +kernel
theorem dX10_as_46 : decode cX10_as 46 = .ok (.aload_n 0, 1) := by decide +kernel
theorem dX10_as_47 : decode cX10_as 47 = .ok (.iconst 5, 1) := by decide +kernel
theorem dX10_as_48 : decode cX10_as 48 = .ok (.invokevirtual 138, 3) := by decide +kernel
theorem dX10_as_51 : decode cX10_as 51 = .ok (.ireturn, 1) := by decide +kernel
theorem dX10_trait_0 : decode cX10_trait 0 = .ok (.aload_n 0, 1) := by decide +kernel
theorem dX10_trait_1 : decode cX10_trait 1 = .ok (.iload_n 1, 1) := by decide +kernel
theorem dX10_trait_2 : decode cX10_trait 2 = .ok (.invokevirtual 150, 3) := by decide +kernel
theorem dX10_trait_5 : decode cX10_trait 5 = .ok (.ifCond .eq 20, 3) := by decide +kernel
theorem dX10_trait_8 : decode cX10_trait 8 = .ok (.iload_n 2, 1) := by decide +kernel
theorem dX10_trait_9 : decode cX10_trait 9 = .ok (.invokestatic 153, 3) := by decide +kernel
theorem dX10_trait_12 : decode cX10_trait 12 = .ok (.ifCond .eq 13, 3) := by decide +kernel
theorem dX10_trait_15 : decode cX10_trait 15 = .ok (.iload_n 3, 1) := by decide +kernel
theorem dX10_trait_16 : decode cX10_trait 16 = .ok (.iconst 0, 1) := by decide +kernel
theorem dX10_trait_17 : decode cX10_trait 17 = .ok (.bipush 15, 2) := by decide +kernel
theorem dX10_trait_19 : decode cX10_trait 19 = .ok (.invokestatic 131, 3) := by decide +kernel
theorem dX10_trait_22 : decode cX10_trait 22 = .ok (.ifCond .ne 9, 3) := by decide +kernel
theorem dX10_trait_25 : decode cX10_trait 25 = .ok (.aload_n 0, 1) := by decide +kernel
theorem dX10_trait_26 : decode cX10_trait 26 = .ok (.iconst 1, 1) := by decide +kernel
theorem dX10_trait_27 : decode cX10_trait 27 = .ok (.invokevirtual 138, 3) := by decide +kernel
theorem dX10_trait_30 : decode cX10_trait 30 = .ok (.ireturn, 1) := by decide +kernel
theorem dX10_trait_31 : decode cX10_trait 31 = .ok (.aload_n 0, 1) := by decide +kernel
theorem dX10_trait_32 : decode cX10_trait 32 = .ok (.getfield 20, 3) := by decide +kernel
theorem dX10_trait_35 : decode cX10_trait 35 = .ok (.iconst 5, 1) := by decide +kernel
theorem dX10_trait_36 : decode cX10_trait 36 = .ok (.iload_n 1, 1) := by decide +kernel
theorem dX10_trait_37 : decode cX10_trait 37 = .ok (.imul, 1) := by decide +kernel
theorem dX10_trait_38 : decode cX10_trait 38 = .ok (.iload_n 2, 1) := by decide +kernel
theorem dX10_trait_39 : decode cX10_trait 39 = .ok (.iadd, 1) := by decide +kernel
theorem dX10_trait_40 : decode cX10_trait 40 = .ok (.iaload, 1) := by decide +kernel
theorem dX10_trait_41 : decode cX10_trait 41 = .ok (.istore 4, 2) := by decide +kernel
theorem dX10_trait_43 : decode cX10_trait 43 = .ok (.aload_n 0, 1) := by decide +kernel
theorem dX10_trait_44 : decode cX10_trait 44 = .ok (.getfield 20, 3) := by decide +kernel
theorem dX10_trait_47 : decode cX10_trait 47 = .ok (.iconst 5, 1) := by decide +kernel
theorem dX10_trait_48 : decode cX10_trait 48 = .ok (.iload_n 1, 1) := by decide +kernel
theorem dX10_trait_49 : decode cX10_trait 49 = .ok (.imul, 1) := by decide +kernel
theorem dX10_trait_50 : decode cX10_trait 50 = .ok (.iload_n 2, 1) := by decide +kernel
theorem dX10_trait_51 : decode cX10_trait 51 = .ok (.iadd, 1) := by decide +kernel
theorem dX10_trait_52 : decode cX10_trait 52 = .ok (.iload_n 3, 1) := by decide +kernel
theorem dX10_trait_53 : decode cX10_trait 53 = .ok (.iastore, 1) := by decide +kernel
theorem dX10_trait_54 : decode cX10_trait 54 = .ok (.iload 4, 2) := by decide +kernel
theorem dX10_trait_56 : decode cX10_trait 56 = .ok (.ireturn, 1) := by decide +kernel
theorem dX10_about_0 : decode cX10_about 0 = .ok (.aload_n 0, 1) := by decide +kernel
theorem dX10_about_1 : decode cX10_about 1 = .ok (.iload_n 1, 1) := by decide +kernel
theorem dX10_about_2 : decode cX10_about 2 = .ok (.invokevirtual 150, 3) := by decide +kernel
theorem dX10_about_5 : decode cX10_about 5 = .ok (.ifCond .eq 13, 3) := by decide +kernel
theorem dX10_about_8 : decode cX10_about 8 = .ok (.iload_n 2, 1) := by decide +kernel
theorem dX10_about_9 : decode cX10_about 9 = .ok (.iconst 0, 1) := by decide +kernel
theorem dX10_about_10 : decode cX10_about 10 = .ok (.bipush 10, 2) := by decide +kernel
theorem dX10_about_12 : decode cX10_about 12 = .ok (.invokestatic 131, 3) := by decide +kernel
theorem dX10_about_15 : decode cX10_about 15 = .ok (.ifCond .ne 9, 3) := by decide +kernel
theorem dX10_about_18 : decode cX10_about 18 = .ok (.aload_n 0, 1) := by decide +kernel
theorem dX10_about_19 : decode cX10_about 19 = .ok (.iconst 1, 1) := by decide +kernel
theorem dX10_about_20 : decode cX10_about 20 = .ok (.invokevirtual 138, 3) := by decide +kernel
theorem dX10_about_23 : decode cX10_about 23 = .ok (.ireturn, 1) := by decide +kernel
theorem dX10_about_24 : decode cX10_about 24 = .ok (.iload_n 2, 1) := by decide +kernel
theorem dX10_about_25 : decode cX10_about 25 = .ok (.tableswitch 81 0 5 #[39, 46, 53, 60, 67, 74], 39) := by decide +kernel
theorem dX10_about_64 : decode cX10_about 64 = .ok (.aload_n 0, 1) := by decide +kernel
theorem dX10_about_65 : decode cX10_about 65 = .ok (.getfield 13, 3) := by decide +kernel
theorem dX10_about_68 : decode cX10_about 68 = .ok (.iload_n 1, 1) := by decide +kernel
theorem dX10_about_69 : decode cX10_about 69 = .ok (.iaload, 1) := by decide +kernel
theorem dX10_about_70 : decode cX10_about 70 = .ok (.ireturn, 1) := by decide +kernel
theorem dX10_about_71 : decode cX10_about 71 = .ok (.aload_n 0, 1) := by decide +kernel
theorem dX10_about_72 : decode cX10_about 72 = .ok (.getfield 17, 3) := by decide +kernel
theorem dX10_about_75 : decode cX10_about 75 = .ok (.iload_n 1, 1) := by decide +kernel
theorem dX10_about_76 : decode cX10_about 76 = .ok (.iaload, 1) := by decide +kernel
theorem dX10_about_77 : decode cX10_about 77 = .ok (.ireturn, 1) := by decide +kernel
theorem dX10_about_78 : decode cX10_about 78 = .ok (.aload_n 0, 1) := by decide +kernel
theorem dX10_about_79 : decode cX10_about 79 = .ok (.getfield 23, 3) := by decide +kernel
theorem dX10_about_82 : decode cX10_about 82 = .ok (.iload_n 1, 1) := by decide +kernel
theorem dX10_about_83 : decode cX10_about 83 = .ok (.iaload, 1) := by decide +kernel
theorem dX10_about_84 : decode cX10_about 84 = .ok (.ireturn, 1) := by decide +kernel
theorem dX10_about_85 : decode cX10_about 85 = .ok (.aload_n 0, 1) := by decide +kernel
theorem dX10_about_86 : decode cX10_about 86 = .ok (.getfield 26, 3) := by decide +kernel
theorem dX10_about_89 : decode cX10_about 89 = .ok (.iload_n 1, 1) := by decide +kernel
theorem dX10_about_90 : decode cX10_about 90 = .ok (.iaload, 1) := by decide +kernel
theorem dX10_about_91 : decode cX10_about 91 = .ok (.ireturn, 1) := by decide +kernel
theorem dX10_about_92 : decode cX10_about 92 = .ok (.aload_n 0, 1) := by decide +kernel
theorem dX10_about_93 : decode cX10_about 93 = .ok (.getfield 32, 3) := by decide +kernel
theorem dX10_about_96 : decode cX10_about 96 = .ok (.iload_n 1, 1) := by decide +kernel
theorem dX10_about_97 : decode cX10_about 97 = .ok (.iaload, 1) := by decide +kernel
theorem dX10_about_98 : decode cX10_about 98 = .ok (.ireturn, 1) := by decide +kernel
theorem dX10_about_99 : decode cX10_about 99 = .ok (.aload_n 0, 1) := by decide +kernel
theorem dX10_about_100 : decode cX10_about 100 = .ok (.getfield 35, 3) := by decide +kernel
theorem dX10_about_103 : decode cX10_about 103 = .ok (.iload_n 1, 1) := by decide +kernel
theorem dX10_about_104 : decode cX10_about 104 = .ok (.iaload, 1) := by decide +kernel
theorem dX10_about_105 : decode cX10_about 105 = .ok (.ireturn, 1) := by decide +kernel
theorem dX10_about_106 : decode cX10_about 106 = .ok (.aload_n 0, 1) := by decide +kernel
theorem dX10_about_107 : decode cX10_about 107 = .ok (.getfield 20, 3) := by decide +kernel
theorem dX10_about_110 : decode cX10_about 110 = .ok (.iconst 5, 1) := by decide +kernel
theorem dX10_about_111 : decode cX10_about 111 = .ok (.iload_n 1, 1) := by decide +kernel
theorem dX10_about_112 : decode cX10_about 112 = .ok (.imul, 1) := by decide +kernel
theorem dX10_about_113 : decode cX10_about 113 = .ok (.iload_n 2, 1) := by decide +kernel
theorem dX10_about_114 : decode cX10_about 114 = .ok (.iadd, 1) := by decide +kernel
theorem dX10_about_115 : decode cX10_about 115 = .ok (.bipush 6, 2) := by decide +kernel
theorem dX10_about_117 : decode cX10_about 117 = .ok (.isub, 1) := by decide +kernel
theorem dX10_about_118 : decode cX10_about 118 = .ok (.iaload, 1) := by decide +kernel
theorem dX10_about_119 : decode cX10_about 119 = .ok (.ireturn, 1) := by decide +kernel
theorem dX10_day_0 : decode cX10_day 0 = .ok (.iload_n 1, 1) := by decide +kernel
theorem dX10_day_1 : decode cX10_day 1 = .ok (.aload_n 0, 1) := by decide +kernel
theorem dX10_day_2 : decode cX10_day 2 = .ok (.getfield 121, 3) := by decide +kernel
theorem dX10_day_5 : decode cX10_day 5 = .ok (.sipush 9999, 3) := by decide +kernel
theorem dX10_day_8 : decode cX10_day 8 = .ok (.invokestatic 131, 3) := by decide +kernel
theorem dX10_day_11 : decode cX10_day 11 = .ok (.ifCond .ne 9, 3) := by decide +kernel
theorem dX10_day_14 : decode cX10_day 14 = .ok (.aload_n 0, 1) := by decide +kernel
theorem dX10_day_15 : decode cX10_day 15 = .ok (.iconst 1, 1) := by decide +kernel
theorem dX10_day_16 : decode cX10_day 16 = .ok (.invokevirtual 138, 3) := by decide +kernel
theorem dX10_day_19 : decode cX10_day 19 = .ok (.ireturn, 1) := by decide +kernel
theorem dX10_day_20 : decode cX10_day 20 = .ok (.aload_n 0, 1) := by decide +kernel
theorem dX10_day_21 : decode cX10_day 21 = .ok (.iload_n 1, 1) := by decide +kernel
theorem dX10_day_22 : decode cX10_day 22 = .ok (.putfield 121, 3) := by decide +kernel
theorem dX10_day_25 : decode cX10_day 25 = .ok (.iconst 0, 1) := by decide +kernel
theorem dX10_day_26 : decode cX10_day 26 = .ok (.istore_n 2, 1) := by decide +kernel
theorem dX10_day_27 : decode cX10_day 27 = .ok (.iconst 0, 1) := by decide +kernel
theorem dX10_day_28 : decode cX10_day 28 = .ok (.istore_n 3, 1) := by decide +kernel
theorem dX10_day_29 : decode cX10_day 29 = .ok (.iload_n 3, 1) := by decide +kernel
theorem dX10_day_30 : decode cX10_day 30 = .ok (.aload_n 0, 1) := by decide +kernel
theorem dX10_day_31 : decode cX10_day 31 = .ok (.getfield 125, 3) := by decide +kernel
theorem dX10_day_34 : decode cX10_day 34 = .ok (.if_icmp .ge 26, 3) := by decide +kernel
theorem dX10_day_37 : decode cX10_day 37 = .ok (.aload_n 0, 1) := by decide +kernel
theorem dX10_day_38 : decode cX10_day 38 = .ok (.iload_n 3, 1) := by decide +kernel
theorem dX10_day_39 : decode cX10_day 39 = .ok (.invokevirtual 146, 3) := by decide +kernel
theorem dX10_day_42 : decode cX10_day 42 = .ok (.ifCond .eq 12, 3) := by decide +kernel
theorem dX10_day_45 : decode cX10_day 45 = .ok (.aload_n 0, 1) := by decide +kernel
theorem dX10_day_46 : decode cX10_day 46 = .ok (.iload_n 3, 1) := by decide +kernel
theorem dX10_day_47 : decode cX10_day 47 = .ok (.iconst 3, 1) := by decide +kernel
theorem dX10_day_48 : decode cX10_day 48 = .ok (.invokevirtual 142, 3) := by decide +kernel
theorem dX10_day_51 : decode cX10_day 51 = .ok (.iinc 2 1, 3) := by decide +kernel
theorem dX10_day_54 : decode cX10_day 54 = .ok (.iinc 3 1, 3) := by decide +kernel
theorem dX10_day_57 : decode cX10_day 57 = .ok (.goto (-28), 3) := by decide +kernel
theorem dX10_day_60 : decode cX10_day 60 = .ok (.iload_n 2, 1) := by decide +kernel
theorem dX10_day_61 : decode cX10_day 61 = .ok (.ireturn, 1) := by decide +kernel
theorem dX10_spoil_0 : decode cX10_spoil 0 = .ok (.iload_n 1, 1) := by decide +kernel
theorem dX10_spoil_1 : decode cX10_spoil 1 = .ok (.iconst 0, 1) := by decide +kernel
theorem dX10_spoil_2 : decode cX10_spoil 2 = .ok (.bipush 30, 2) := by decide +kernel
theorem dX10_spoil_4 : decode cX10_spoil 4 = .ok (.invokestatic 131, 3) := by decide +kernel
theorem dX10_spoil_7 : decode cX10_spoil 7 = .ok (.ifCond .ne 9, 3) := by decide +kernel
theorem dX10_spoil_10 : decode cX10_spoil 10 = .ok (.aload_n 0, 1) := by decide +kernel
theorem dX10_spoil_11 : decode cX10_spoil 11 = .ok (.iconst 1, 1) := by decide +kernel
theorem dX10_spoil_12 : decode cX10_spoil 12 = .ok (.invokevirtual 138, 3) := by decide +kernel
theorem dX10_spoil_15 : decode cX10_spoil 15 = .ok (.ireturn, 1) := by decide +kernel
theorem dX10_spoil_16 : decode cX10_spoil 16 = .ok (.aload_n 0, 1) := by decide +kernel
theorem dX10_spoil_17 : decode cX10_spoil 17 = .ok (.getfield 7, 3) := by decide +kernel
theorem dX10_spoil_20 : decode cX10_spoil 20 = .ok (.istore_n 2, 1) := by decide +kernel
theorem dX10_spoil_21 : decode cX10_spoil 21 = .ok (.aload_n 0, 1) := by decide +kernel
theorem dX10_spoil_22 : decode cX10_spoil 22 = .ok (.iload_n 1, 1) := by decide +kernel
theorem dX10_spoil_23 : decode cX10_spoil 23 = .ok (.putfield 7, 3) := by decide +kernel
theorem dX10_spoil_26 : decode cX10_spoil 26 = .ok (.iload_n 2, 1) := by decide +kernel
theorem dX10_spoil_27 : decode cX10_spoil 27 = .ok (.ireturn, 1) := by decide +kernel
theorem dX10_known_0 : decode cX10_known 0 = .ok (.aload_n 0, 1) := by decide +kernel
theorem dX10_known_1 : decode cX10_known 1 = .ok (.iload_n 1, 1) := by decide +kernel
theorem dX10_known_2 : decode cX10_known 2 = .ok (.invokevirtual 150, 3) := by decide +kernel
theorem dX10_known_5 : decode cX10_known 5 = .ok (.ifCond .eq 14, 3) := by decide +kernel
theorem dX10_known_8 : decode cX10_known 8 = .ok (.iload_n 2, 1) := by decide +kernel
theorem dX10_known_9 : decode cX10_known 9 = .ok (.iconst 0, 1) := by decide +kernel
theorem dX10_known_10 : decode cX10_known 10 = .ok (.sipush 9999, 3) := by decide +kernel
theorem dX10_known_13 : decode cX10_known 13 = .ok (.invokestatic 131, 3) := by decide +kernel
theorem dX10_known_16 : decode cX10_known 16 = .ok (.ifCond .ne 9, 3) := by decide +kernel
theorem dX10_known_19 : decode cX10_known 19 = .ok (.aload_n 0, 1) := by decide +kernel
theorem dX10_known_20 : decode cX10_known 20 = .ok (.iconst 1, 1) := by decide +kernel
theorem dX10_known_21 : decode cX10_known 21 = .ok (.invokevirtual 138, 3) := by decide +kernel
theorem dX10_known_24 : decode cX10_known 24 = .ok (.ireturn, 1) := by decide +kernel
theorem dX10_known_25 : decode cX10_known 25 = .ok (.iconst (-1), 1) := by decide +kernel
theorem dX10_known_26 : decode cX10_known 26 = .ok (.istore_n 3, 1) := by decide +kernel
theorem dX10_known_27 : decode cX10_known 27 = .ok (.iconst 0, 1) := by decide +kernel
theorem dX10_known_28 : decode cX10_known 28 = .ok (.istore 4, 2) := by decide +kernel
theorem dX10_known_30 : decode cX10_known 30 = .ok (.iload 4, 2) := by decide +kernel
theorem dX10_known_32 : decode cX10_known 32 = .ok (.aload_n 0, 1) := by decide +kernel
theorem dX10_known_33 : decode cX10_known 33 = .ok (.getfield 135, 3) := by decide +kernel
theorem dX10_known_36 : decode cX10_known 36 = .ok (.if_icmp .ge 53, 3) := by decide +kernel
theorem dX10_known_39 : decode cX10_known 39 = .ok (.aload_n 0, 1) := by decide +kernel
theorem dX10_known_40 : decode cX10_known 40 = .ok (.getfield 51, 3) := by decide +kernel
theorem dX10_known_43 : decode cX10_known 43 = .ok (.iconst 3, 1) := by decide +kernel
theorem dX10_known_44 : decode cX10_known 44 = .ok (.iload 4, 2) := by decide +kernel
theorem dX10_known_46 : decode cX10_known 46 = .ok (.imul, 1) := by decide +kernel
theorem dX10_known_47 : decode cX10_known 47 = .ok (.iaload, 1) := by decide +kernel
theorem dX10_known_48 : decode cX10_known 48 = .ok (.iload_n 1, 1) := by decide +kernel
theorem dX10_known_49 : decode cX10_known 49 = .ok (.if_icmp .ne 32, 3) := by decide +kernel
theorem dX10_known_52 : decode cX10_known 52 = .ok (.aload_n 0, 1) := by decide +kernel
theorem dX10_known_53 : decode cX10_known 53 = .ok (.getfield 51, 3) := by decide +kernel
theorem dX10_known_56 : decode cX10_known 56 = .ok (.iconst 3, 1) := by decide +kernel
theorem dX10_known_57 : decode cX10_known 57 = .ok (.iload 4, 2) := by decide +kernel
theorem dX10_known_59 : decode cX10_known 59 = .ok (.imul, 1) := by decide +kernel
theorem dX10_known_60 : decode cX10_known 60 = .ok (.iconst 1, 1) := by decide +kernel
theorem dX10_known_61 : decode cX10_known 61 = .ok (.iadd, 1) := by decide +kernel
theorem dX10_known_62 : decode cX10_known 62 = .ok (.iaload, 1) := by decide +kernel
theorem dX10_known_63 : decode cX10_known 63 = .ok (.iload_n 2, 1) := by decide +kernel
theorem dX10_known_64 : decode cX10_known 64 = .ok (.if_icmp .gt 17, 3) := by decide +kernel
theorem dX10_known_67 : decode cX10_known 67 = .ok (.aload_n 0, 1) := by decide +kernel
theorem dX10_known_68 : decode cX10_known 68 = .ok (.getfield 51, 3) := by decide +kernel
theorem dX10_known_71 : decode cX10_known 71 = .ok (.iconst 3, 1) := by decide +kernel
theorem dX10_known_72 : decode cX10_known 72 = .ok (.iload 4, 2) := by decide +kernel
theorem dX10_known_74 : decode cX10_known 74 = .ok (.imul, 1) := by decide +kernel
theorem dX10_known_75 : decode cX10_known 75 = .ok (.iconst 2, 1) := by decide +kernel
theorem dX10_known_76 : decode cX10_known 76 = .ok (.iadd, 1) := by decide +kernel
theorem dX10_known_77 : decode cX10_known 77 = .ok (.iaload, 1) := by decide +kernel
theorem dX10_known_78 : decode cX10_known 78 = .ok (.goto 4, 3) := by decide +kernel
theorem dX10_known_81 : decode cX10_known 81 = .ok (.iload_n 3, 1) := by decide +kernel
theorem dX10_known_82 : decode cX10_known 82 = .ok (.istore_n 3, 1) := by decide +kernel
theorem dX10_known_83 : decode cX10_known 83 = .ok (.iinc 4 1, 3) := by decide +kernel
theorem dX10_known_86 : decode cX10_known 86 = .ok (.goto (-56), 3) := by decide +kernel
theorem dX10_known_89 : decode cX10_known 89 = .ok (.iload_n 3, 1) := by decide +kernel
theorem dX10_known_90 : decode cX10_known 90 = .ok (.ireturn, 1) := by decide +kernel
theorem dX10_seeker_0 : decode cX10_seeker 0 = .ok (.iload_n 1, 1) := by decide +kernel
theorem dX10_seeker_1 : decode cX10_seeker 1 = .ok (.iconst 0, 1) := by decide +kernel
theorem dX10_seeker_2 : decode cX10_seeker 2 = .ok (.sipush 9999, 3) := by decide +kernel
theorem dX10_seeker_5 : decode cX10_seeker 5 = .ok (.invokestatic 131, 3) := by decide +kernel
theorem dX10_seeker_8 : decode cX10_seeker 8 = .ok (.ifCond .ne 9, 3) := by decide +kernel
theorem dX10_seeker_11 : decode cX10_seeker 11 = .ok (.aload_n 0, 1) := by decide +kernel
theorem dX10_seeker_12 : decode cX10_seeker 12 = .ok (.iconst 1, 1) := by decide +kernel
theorem dX10_seeker_13 : decode cX10_seeker 13 = .ok (.invokevirtual 138, 3) := by decide +kernel
theorem dX10_seeker_16 : decode cX10_seeker 16 = .ok (.ireturn, 1) := by decide +kernel
theorem dX10_seeker_17 : decode cX10_seeker 17 = .ok (.aload_n 0, 1) := by decide +kernel
theorem dX10_seeker_18 : decode cX10_seeker 18 = .ok (.getfield 128, 3) := by decide +kernel
theorem dX10_seeker_21 : decode cX10_seeker 21 = .ok (.bipush 8, 2) := by decide +kernel
theorem dX10_seeker_23 : decode cX10_seeker 23 = .ok (.if_icmp .ne 9, 3) := by decide +kernel
theorem dX10_seeker_26 : decode cX10_seeker 26 = .ok (.aload_n 0, 1) := by decide +kernel
theorem dX10_seeker_27 : decode cX10_seeker 27 = .ok (.iconst 4, 1) := by decide +kernel
theorem dX10_seeker_28 : decode cX10_seeker 28 = .ok (.invokevirtual 138, 3) := by decide +kernel
theorem dX10_seeker_31 : decode cX10_seeker 31 = .ok (.ireturn, 1) := by decide +kernel
theorem dX10_seeker_32 : decode cX10_seeker 32 = .ok (.aload_n 0, 1) := by decide +kernel
theorem dX10_seeker_33 : decode cX10_seeker 33 = .ok (.getfield 54, 3) := by decide +kernel
theorem dX10_seeker_36 : decode cX10_seeker 36 = .ok (.aload_n 0, 1) := by decide +kernel
theorem dX10_seeker_37 : decode cX10_seeker 37 = .ok (.getfield 128, 3) := by decide +kernel
theorem dX10_seeker_40 : decode cX10_seeker 40 = .ok (.iload_n 1, 1) := by decide +kernel
theorem dX10_seeker_41 : decode cX10_seeker 41 = .ok (.iastore, 1) := by decide +kernel
theorem dX10_seeker_42 : decode cX10_seeker 42 = .ok (.aload_n 0, 1) := by decide +kernel
theorem dX10_seeker_43 : decode cX10_seeker 43 = .ok (.getfield 60, 3) := by decide +kernel
theorem dX10_seeker_46 : decode cX10_seeker 46 = .ok (.aload_n 0, 1) := by decide +kernel
theorem dX10_seeker_47 : decode cX10_seeker 47 = .ok (.getfield 128, 3) := by decide +kernel
theorem dX10_seeker_50 : decode cX10_seeker 50 = .ok (.iconst 1, 1) := by decide +kernel
theorem dX10_seeker_51 : decode cX10_seeker 51 = .ok (.iastore, 1) := by decide +kernel
theorem dX10_seeker_52 : decode cX10_seeker 52 = .ok (.aload_n 0, 1) := by decide +kernel
theorem dX10_seeker_53 : decode cX10_seeker 53 = .ok (.getfield 63, 3) := by decide +kernel
theorem dX10_seeker_56 : decode cX10_seeker 56 = .ok (.aload_n 0, 1) := by decide +kernel
theorem dX10_seeker_57 : decode cX10_seeker 57 = .ok (.getfield 128, 3) := by decide +kernel
theorem dX10_seeker_60 : decode cX10_seeker 60 = .ok (.sipush 5000, 3) := by decide +kernel
theorem dX10_seeker_63 : decode cX10_seeker 63 = .ok (.iastore, 1) := by decide +kernel
theorem dX10_seeker_64 : decode cX10_seeker 64 = .ok (.iconst 0, 1) := by decide +kernel
theorem dX10_seeker_65 : decode cX10_seeker 65 = .ok (.istore_n 2, 1) := by decide +kernel
theorem dX10_seeker_66 : decode cX10_seeker 66 = .ok (.iload_n 2, 1) := by decide +kernel
theorem dX10_seeker_67 : decode cX10_seeker 67 = .ok (.iconst 5, 1) := by decide +kernel
theorem dX10_seeker_68 : decode cX10_seeker 68 = .ok (.if_icmp .ge 23, 3) := by decide +kernel
theorem dX10_seeker_71 : decode cX10_seeker 71 = .ok (.aload_n 0, 1) := by decide +kernel
theorem dX10_seeker_72 : decode cX10_seeker 72 = .ok (.getfield 57, 3) := by decide +kernel
theorem dX10_seeker_75 : decode cX10_seeker 75 = .ok (.iconst 5, 1) := by decide +kernel
theorem dX10_seeker_76 : decode cX10_seeker 76 = .ok (.aload_n 0, 1) := by decide +kernel
theorem dX10_seeker_77 : decode cX10_seeker 77 = .ok (.getfield 128, 3) := by decide +kernel
theorem dX10_seeker_80 : decode cX10_seeker 80 = .ok (.imul, 1) := by decide +kernel
theorem dX10_seeker_81 : decode cX10_seeker 81 = .ok (.iload_n 2, 1) := by decide +kernel
theorem dX10_seeker_82 : decode cX10_seeker 82 = .ok (.iadd, 1) := by decide +kernel
theorem dX10_seeker_83 : decode cX10_seeker 83 = .ok (.iconst (-1), 1) := by decide +kernel
theorem dX10_seeker_84 : decode cX10_seeker 84 = .ok (.iastore, 1) := by decide +kernel
theorem dX10_seeker_85 : decode cX10_seeker 85 = .ok (.iinc 2 1, 3) := by decide +kernel
theorem dX10_seeker_88 : decode cX10_seeker 88 = .ok (.goto (-22), 3) := by decide +kernel
theorem dX10_seeker_91 : decode cX10_seeker 91 = .ok (.aload_n 0, 1) := by decide +kernel
theorem dX10_seeker_92 : decode cX10_seeker 92 = .ok (.dup, 1) := by decide +kernel
theorem dX10_seeker_93 : decode cX10_seeker 93 = .ok (.getfield 128, 3) := by decide +kernel
theorem dX10_seeker_96 : decode cX10_seeker 96 = .ok (.iconst 1, 1) := by decide +kernel
theorem dX10_seeker_97 : decode cX10_seeker 97 = .ok (.iadd, 1) := by decide +kernel
theorem dX10_seeker_98 : decode cX10_seeker 98 = .ok (.putfield 128, 3) := by decide +kernel
theorem dX10_seeker_101 : decode cX10_seeker 101 = .ok (.aload_n 0, 1) := by decide +kernel
theorem dX10_seeker_102 : decode cX10_seeker 102 = .ok (.getfield 128, 3) := by decide +kernel
theorem dX10_seeker_105 : decode cX10_seeker 105 = .ok (.iconst 1, 1) := by decide +kernel
theorem dX10_seeker_106 : decode cX10_seeker 106 = .ok (.isub, 1) := by decide +kernel
theorem dX10_seeker_107 : decode cX10_seeker 107 = .ok (.ireturn, 1) := by decide +kernel
theorem dX10_word_0 : decode cX10_word 0 = .ok (.aload_n 0, 1) := by decide +kernel
theorem dX10_word_1 : decode cX10_word 1 = .ok (.iload_n 1, 1) := by decide +kernel
theorem dX10_word_2 : decode cX10_word 2 = .ok (.invokevirtual 156, 3) := by decide +kernel
theorem dX10_word_5 : decode cX10_word 5 = .ok (.ifCond .eq 20, 3) := by decide +kernel
theorem dX10_word_8 : decode cX10_word 8 = .ok (.iload_n 2, 1) := by decide +kernel
theorem dX10_word_9 : decode cX10_word 9 = .ok (.invokestatic 153, 3) := by decide +kernel
theorem dX10_word_12 : decode cX10_word 12 = .ok (.ifCond .eq 13, 3) := by decide +kernel
theorem dX10_word_15 : decode cX10_word 15 = .ok (.iload_n 3, 1) := by decide +kernel
theorem dX10_word_16 : decode cX10_word 16 = .ok (.iconst (-1), 1) := by decide +kernel
theorem dX10_word_17 : decode cX10_word 17 = .ok (.bipush 15, 2) := by decide +kernel
theorem dX10_word_19 : decode cX10_word 19 = .ok (.invokestatic 131, 3) := by decide +kernel
theorem dX10_word_22 : decode cX10_word 22 = .ok (.ifCond .ne 9, 3) := by decide +kernel
theorem dX10_word_25 : decode cX10_word 25 = .ok (.aload_n 0, 1) := by decide +kernel
theorem dX10_word_26 : decode cX10_word 26 = .ok (.iconst 1, 1) := by decide +kernel
theorem dX10_word_27 : decode cX10_word 27 = .ok (.invokevirtual 138, 3) := by decide +kernel
theorem dX10_word_30 : decode cX10_word 30 = .ok (.ireturn, 1) := by decide +kernel
theorem dX10_word_31 : decode cX10_word 31 = .ok (.aload_n 0, 1) := by decide +kernel
theorem dX10_word_32 : decode cX10_word 32 = .ok (.getfield 57, 3) := by decide +kernel
theorem dX10_word_35 : decode cX10_word 35 = .ok (.iconst 5, 1) := by decide +kernel
theorem dX10_word_36 : decode cX10_word 36 = .ok (.iload_n 1, 1) := by decide +kernel
theorem dX10_word_37 : decode cX10_word 37 = .ok (.imul, 1) := by decide +kernel
theorem dX10_word_38 : decode cX10_word 38 = .ok (.iload_n 2, 1) := by decide +kernel
theorem dX10_word_39 : decode cX10_word 39 = .ok (.iadd, 1) := by decide +kernel
theorem dX10_word_40 : decode cX10_word 40 = .ok (.iaload, 1) := by decide +kernel
theorem dX10_word_41 : decode cX10_word 41 = .ok (.istore 4, 2) := by decide +kernel
theorem dX10_word_43 : decode cX10_word 43 = .ok (.aload_n 0, 1) := by decide +kernel
theorem dX10_word_44 : decode cX10_word 44 = .ok (.getfield 57, 3) := by decide +kernel
theorem dX10_word_47 : decode cX10_word 47 = .ok (.iconst 5, 1) := by decide +kernel
theorem dX10_word_48 : decode cX10_word 48 = .ok (.iload_n 1, 1) := by decide +kernel
theorem dX10_word_49 : decode cX10_word 49 = .ok (.imul, 1) := by decide +kernel
theorem dX10_word_50 : decode cX10_word 50 = .ok (.iload_n 2, 1) := by decide +kernel
theorem dX10_word_51 : decode cX10_word 51 = .ok (.iadd, 1) := by decide +kernel
theorem dX10_word_52 : decode cX10_word 52 = .ok (.iload_n 3, 1) := by decide +kernel
theorem dX10_word_53 : decode cX10_word 53 = .ok (.iastore, 1) := by decide +kernel
theorem dX10_word_54 : decode cX10_word 54 = .ok (.iload 4, 2) := by decide +kernel
theorem dX10_word_56 : decode cX10_word 56 = .ok (.ireturn, 1) := by decide +kernel
theorem dX10_span_0 : decode cX10_span 0 = .ok (.aload_n 0, 1) := by decide +kernel
theorem dX10_span_1 : decode cX10_span 1 = .ok (.iload_n 1, 1) := by decide +kernel
theorem dX10_span_2 : decode cX10_span 2 = .ok (.invokevirtual 156, 3) := by decide +kernel
theorem dX10_span_5 : decode cX10_span 5 = .ok (.ifCond .eq 25, 3) := by decide +kernel
theorem dX10_span_8 : decode cX10_span 8 = .ok (.iload_n 2, 1) := by decide +kernel
theorem dX10_span_9 : decode cX10_span 9 = .ok (.iconst 1, 1) := by decide +kernel
theorem dX10_span_10 : decode cX10_span 10 = .ok (.sipush 5000, 3) := by decide +kernel
theorem dX10_span_13 : decode cX10_span 13 = .ok (.invokestatic 131, 3) := by decide +kernel
theorem dX10_span_16 : decode cX10_span 16 = .ok (.ifCond .eq 14, 3) := by decide +kernel
theorem dX10_span_19 : decode cX10_span 19 = .ok (.iload_n 3, 1) := by decide +kernel
theorem dX10_span_20 : decode cX10_span 20 = .ok (.iload_n 2, 1) := by decide +kernel
theorem dX10_span_21 : decode cX10_span 21 = .ok (.sipush 5000, 3) := by decide +kernel
theorem dX10_span_24 : decode cX10_span 24 = .ok (.invokestatic 131, 3) := by decide +kernel
theorem dX10_span_27 : decode cX10_span 27 = .ok (.ifCond .ne 9, 3) := by decide +kernel
theorem dX10_span_30 : decode cX10_span 30 = .ok (.aload_n 0, 1) := by decide +kernel
theorem dX10_span_31 : decode cX10_span 31 = .ok (.iconst 1, 1) := by decide +kernel
theorem dX10_span_32 : decode cX10_span 32 = .ok (.invokevirtual 138, 3) := by decide +kernel
theorem dX10_span_35 : decode cX10_span 35 = .ok (.ireturn, 1) := by decide +kernel
theorem dX10_span_36 : decode cX10_span 36 = .ok (.aload_n 0, 1) := by decide +kernel
theorem dX10_span_37 : decode cX10_span 37 = .ok (.getfield 60, 3) := by decide +kernel
theorem dX10_span_40 : decode cX10_span 40 = .ok (.iload_n 1, 1) := by decide +kernel
theorem dX10_span_41 : decode cX10_span 41 = .ok (.iload_n 2, 1) := by decide +kernel
theorem dX10_span_42 : decode cX10_span 42 = .ok (.iastore, 1) := by decide +kernel
theorem dX10_span_43 : decode cX10_span 43 = .ok (.aload_n 0, 1) := by decide +kernel
theorem dX10_span_44 : decode cX10_span 44 = .ok (.getfield 63, 3) := by decide +kernel
theorem dX10_span_47 : decode cX10_span 47 = .ok (.iload_n 1, 1) := by decide +kernel
theorem dX10_span_48 : decode cX10_span 48 = .ok (.iload_n 3, 1) := by decide +kernel
theorem dX10_span_49 : decode cX10_span 49 = .ok (.iastore, 1) := by decide +kernel
theorem dX10_span_50 : decode cX10_span 50 = .ok (.iconst 1, 1) := by decide +kernel
theorem dX10_span_51 : decode cX10_span 51 = .ok (.ireturn, 1) := by decide +kernel
theorem dX10_points_0 : decode cX10_points 0 = .ok (.iload_n 1, 1) := by decide +kernel
theorem dX10_points_1 : decode cX10_points 1 = .ok (.invokestatic 153, 3) := by decide +kernel
theorem dX10_points_4 : decode cX10_points 4 = .ok (.ifCond .eq 13, 3) := by decide +kernel
theorem dX10_points_7 : decode cX10_points 7 = .ok (.iload_n 2, 1) := by decide +kernel
theorem dX10_points_8 : decode cX10_points 8 = .ok (.iconst 0, 1) := by decide +kernel
theorem dX10_points_9 : decode cX10_points 9 = .ok (.bipush 20, 2) := by decide +kernel
theorem dX10_points_11 : decode cX10_points 11 = .ok (.invokestatic 131, 3) := by decide +kernel
theorem dX10_points_14 : decode cX10_points 14 = .ok (.ifCond .ne 9, 3) := by decide +kernel
theorem dX10_points_17 : decode cX10_points 17 = .ok (.aload_n 0, 1) := by decide +kernel
theorem dX10_points_18 : decode cX10_points 18 = .ok (.iconst 1, 1) := by decide +kernel
theorem dX10_points_19 : decode cX10_points 19 = .ok (.invokevirtual 138, 3) := by decide +kernel
theorem dX10_points_22 : decode cX10_points 22 = .ok (.ireturn, 1) := by decide +kernel
theorem dX10_points_23 : decode cX10_points 23 = .ok (.aload_n 0, 1) := by decide +kernel
theorem dX10_points_24 : decode cX10_points 24 = .ok (.getfield 72, 3) := by decide +kernel
theorem dX10_points_27 : decode cX10_points 27 = .ok (.iload_n 1, 1) := by decide +kernel
theorem dX10_points_28 : decode cX10_points 28 = .ok (.iaload, 1) := by decide +kernel
theorem dX10_points_29 : decode cX10_points 29 = .ok (.istore_n 3, 1) := by decide +kernel
theorem dX10_points_30 : decode cX10_points 30 = .ok (.aload_n 0, 1) := by decide +kernel
theorem dX10_points_31 : decode cX10_points 31 = .ok (.getfield 72, 3) := by decide +kernel
theorem dX10_points_34 : decode cX10_points 34 = .ok (.iload_n 1, 1) := by decide +kernel
theorem dX10_points_35 : decode cX10_points 35 = .ok (.iload_n 2, 1) := by decide +kernel
theorem dX10_points_36 : decode cX10_points 36 = .ok (.iastore, 1) := by decide +kernel
theorem dX10_points_37 : decode cX10_points 37 = .ok (.iload_n 3, 1) := by decide +kernel
theorem dX10_points_38 : decode cX10_points 38 = .ok (.ireturn, 1) := by decide +kernel
theorem dX10_like_0 : decode cX10_like 0 = .ok (.aload_n 0, 1) := by decide +kernel
theorem dX10_like_1 : decode cX10_like 1 = .ok (.getfield 69, 3) := by decide +kernel
theorem dX10_like_4 : decode cX10_like 4 = .ok (.iload_n 1, 1) := by decide +kernel
theorem dX10_like_5 : decode cX10_like 5 = .ok (.baload, 1) := by decide +kernel
theorem dX10_like_6 : decode cX10_like 6 = .ok (.ifCond .ne 27, 3) := by decide +kernel
theorem dX10_like_9 : decode cX10_like 9 = .ok (.aload_n 0, 1) := by decide +kernel
theorem dX10_like_10 : decode cX10_like 10 = .ok (.getfield 32, 3) := by decide +kernel
theorem dX10_like_13 : decode cX10_like 13 = .ok (.iload_n 2, 1) := by decide +kernel
theorem dX10_like_14 : decode cX10_like 14 = .ok (.iaload, 1) := by decide +kernel
theorem dX10_like_15 : decode cX10_like 15 = .ok (.ifCond .ne 18, 3) := by decide +kernel
theorem dX10_like_18 : decode cX10_like 18 = .ok (.aload_n 0, 1) := by decide +kernel
theorem dX10_like_19 : decode cX10_like 19 = .ok (.getfield 17, 3) := by decide +kernel
theorem dX10_like_22 : decode cX10_like 22 = .ok (.iload_n 2, 1) := by decide +kernel
theorem dX10_like_23 : decode cX10_like 23 = .ok (.iaload, 1) := by decide +kernel
theorem dX10_like_24 : decode cX10_like 24 = .ok (.aload_n 0, 1) := by decide +kernel
theorem dX10_like_25 : decode cX10_like 25 = .ok (.getfield 54, 3) := by decide +kernel
theorem dX10_like_28 : decode cX10_like 28 = .ok (.iload_n 1, 1) := by decide +kernel
theorem dX10_like_29 : decode cX10_like 29 = .ok (.iaload, 1) := by decide +kernel
theorem dX10_like_30 : decode cX10_like 30 = .ok (.if_icmp .ge 5, 3) := by decide +kernel
theorem dX10_like_33 : decode cX10_like 33 = .ok (.iconst 0, 1) := by decide +kernel
theorem dX10_like_34 : decode cX10_like 34 = .ok (.ireturn, 1) := by decide +kernel
theorem dX10_like_35 : decode cX10_like 35 = .ok (.aload_n 0, 1) := by decide +kernel
theorem dX10_like_36 : decode cX10_like 36 = .ok (.getfield 23, 3) := by decide +kernel
theorem dX10_like_39 : decode cX10_like 39 = .ok (.iload_n 2, 1) := by decide +kernel
theorem dX10_like_40 : decode cX10_like 40 = .ok (.iaload, 1) := by decide +kernel
theorem dX10_like_41 : decode cX10_like 41 = .ok (.aload_n 0, 1) := by decide +kernel
theorem dX10_like_42 : decode cX10_like 42 = .ok (.getfield 60, 3) := by decide +kernel
theorem dX10_like_45 : decode cX10_like 45 = .ok (.iload_n 1, 1) := by decide +kernel
theorem dX10_like_46 : decode cX10_like 46 = .ok (.iaload, 1) := by decide +kernel
theorem dX10_like_47 : decode cX10_like 47 = .ok (.aload_n 0, 1) := by decide +kernel
theorem dX10_like_48 : decode cX10_like 48 = .ok (.getfield 63, 3) := by decide +kernel
theorem dX10_like_51 : decode cX10_like 51 = .ok (.iload_n 1, 1) := by decide +kernel
theorem dX10_like_52 : decode cX10_like 52 = .ok (.iaload, 1) := by decide +kernel
theorem dX10_like_53 : decode cX10_like 53 = .ok (.invokestatic 131, 3) := by decide +kernel
theorem dX10_like_56 : decode cX10_like 56 = .ok (.ifCond .eq 7, 3) := by decide +kernel
theorem dX10_like_59 : decode cX10_like 59 = .ok (.iconst 3, 1) := by decide +kernel
theorem dX10_like_60 : decode cX10_like 60 = .ok (.goto 5, 3) := by decide +kernel
theorem dX10_like_63 : decode cX10_like 63 = .ok (.bipush (-3), 2) := by decide +kernel
theorem dX10_like_65 : decode cX10_like 65 = .ok (.istore_n 3, 1) := by decide +kernel
theorem dX10_like_66 : decode cX10_like 66 = .ok (.iconst 0, 1) := by decide +kernel
theorem dX10_like_67 : decode cX10_like 67 = .ok (.istore 4, 2) := by decide +kernel
theorem dX10_like_69 : decode cX10_like 69 = .ok (.iload 4, 2) := by decide +kernel
theorem dX10_like_71 : decode cX10_like 71 = .ok (.iconst 5, 1) := by decide +kernel
theorem dX10_like_72 : decode cX10_like 72 = .ok (.if_icmp .ge 66, 3) := by decide +kernel
theorem dX10_like_75 : decode cX10_like 75 = .ok (.aload_n 0, 1) := by decide +kernel
theorem dX10_like_76 : decode cX10_like 76 = .ok (.getfield 57, 3) := by decide +kernel
theorem dX10_like_79 : decode cX10_like 79 = .ok (.iconst 5, 1) := by decide +kernel
theorem dX10_like_80 : decode cX10_like 80 = .ok (.iload_n 1, 1) := by decide +kernel
theorem dX10_like_81 : decode cX10_like 81 = .ok (.imul, 1) := by decide +kernel
theorem dX10_like_82 : decode cX10_like 82 = .ok (.iload 4, 2) := by decide +kernel
theorem dX10_like_84 : decode cX10_like 84 = .ok (.iadd, 1) := by decide +kernel
theorem dX10_like_85 : decode cX10_like 85 = .ok (.iaload, 1) := by decide +kernel
theorem dX10_like_86 : decode cX10_like 86 = .ok (.istore 5, 2) := by decide +kernel
theorem dX10_like_88 : decode cX10_like 88 = .ok (.iload 5, 2) := by decide +kernel
theorem dX10_like_90 : decode cX10_like 90 = .ok (.ifCond .lt 42, 3) := by decide +kernel
theorem dX10_like_93 : decode cX10_like 93 = .ok (.iload_n 3, 1) := by decide +kernel
theorem dX10_like_94 : decode cX10_like 94 = .ok (.iload 5, 2) := by decide +kernel
theorem dX10_like_96 : decode cX10_like 96 = .ok (.aload_n 0, 1) := by decide +kernel
theorem dX10_like_97 : decode cX10_like 97 = .ok (.getfield 20, 3) := by decide +kernel
theorem dX10_like_100 : decode cX10_like 100 = .ok (.iconst 5, 1) := by decide +kernel
theorem dX10_like_101 : decode cX10_like 101 = .ok (.iload_n 2, 1) := by decide +kernel
theorem dX10_like_102 : decode cX10_like 102 = .ok (.imul, 1) := by decide +kernel
theorem dX10_like_103 : decode cX10_like 103 = .ok (.iload 4, 2) := by decide +kernel
theorem dX10_like_105 : decode cX10_like 105 = .ok (.iadd, 1) := by decide +kernel
theorem dX10_like_106 : decode cX10_like 106 = .ok (.iaload, 1) := by decide +kernel
theorem dX10_like_107 : decode cX10_like 107 = .ok (.if_icmp .ne 13, 3) := by decide +kernel
theorem dX10_like_110 : decode cX10_like 110 = .ok (.aload_n 0, 1) := by decide +kernel
theorem dX10_like_111 : decode cX10_like 111 = .ok (.getfield 72, 3) := by decide +kernel
theorem dX10_like_114 : decode cX10_like 114 = .ok (.iload 4, 2) := by decide +kernel
theorem dX10_like_116 : decode cX10_like 116 = .ok (.iaload, 1) := by decide +kernel
theorem dX10_like_117 : decode cX10_like 117 = .ok (.goto 13, 3) := by decide +kernel
theorem dX10_like_120 : decode cX10_like 120 = .ok (.aload_n 0, 1) := by decide +kernel
theorem dX10_like_121 : decode cX10_like 121 = .ok (.getfield 72, 3) := by decide +kernel
theorem dX10_like_124 : decode cX10_like 124 = .ok (.iload 4, 2) := by decide +kernel
theorem dX10_like_126 : decode cX10_like 126 = .ok (.iaload, 1) := by decide +kernel
theorem dX10_like_127 : decode cX10_like 127 = .ok (.iconst 2, 1) := by decide +kernel
theorem dX10_like_128 : decode cX10_like 128 = .ok (.idiv, 1) := by decide +kernel
theorem dX10_like_129 : decode cX10_like 129 = .ok (.ineg, 1) := by decide +kernel
theorem dX10_like_130 : decode cX10_like 130 = .ok (.iadd, 1) := by decide +kernel
theorem dX10_like_131 : decode cX10_like 131 = .ok (.istore_n 3, 1) := by decide +kernel
theorem dX10_like_132 : decode cX10_like 132 = .ok (.iinc 4 1, 3) := by decide +kernel
theorem dX10_like_135 : decode cX10_like 135 = .ok (.goto (-66), 3) := by decide +kernel
theorem dX10_like_138 : decode cX10_like 138 = .ok (.iload_n 3, 1) := by decide +kernel
theorem dX10_like_139 : decode cX10_like 139 = .ok (.ifCond .ge 7, 3) := by decide +kernel
theorem dX10_like_142 : decode cX10_like 142 = .ok (.iconst 0, 1) := by decide +kernel
theorem dX10_like_143 : decode cX10_like 143 = .ok (.goto 4, 3) := by decide +kernel
theorem dX10_like_146 : decode cX10_like 146 = .ok (.iload_n 3, 1) := by decide +kernel
theorem dX10_like_147 : decode cX10_like 147 = .ok (.ireturn, 1) := by decide +kernel
theorem dX10_likeness_0 : decode cX10_likeness 0 = .ok (.aload_n 0, 1) := by decide +kernel
theorem dX10_likeness_1 : decode cX10_likeness 1 = .ok (.iload_n 1, 1) := by decide +kernel
theorem dX10_likeness_2 : decode cX10_likeness 2 = .ok (.invokevirtual 156, 3) := by decide +kernel
theorem dX10_likeness_5 : decode cX10_likeness 5 = .ok (.ifCond .eq 20, 3) := by decide +kernel
theorem dX10_likeness_8 : decode cX10_likeness 8 = .ok (.aload_n 0, 1) := by decide +kernel
theorem dX10_likeness_9 : decode cX10_likeness 9 = .ok (.iload_n 2, 1) := by decide +kernel
theorem dX10_likeness_10 : decode cX10_likeness 10 = .ok (.invokevirtual 150, 3) := by decide +kernel
theorem dX10_likeness_13 : decode cX10_likeness 13 = .ok (.ifCond .eq 12, 3) := by decide +kernel
theorem dX10_likeness_16 : decode cX10_likeness 16 = .ok (.aload_n 0, 1) := by decide +kernel
theorem dX10_likeness_17 : decode cX10_likeness 17 = .ok (.iload_n 1, 1) := by decide +kernel
theorem dX10_likeness_18 : decode cX10_likeness 18 = .ok (.iload_n 2, 1) := by decide +kernel
theorem dX10_likeness_19 : decode cX10_likeness 19 = .ok (.invokevirtual 159, 3) := by decide +kernel
theorem dX10_likeness_22 : decode cX10_likeness 22 = .ok (.goto 8, 3) := by decide +kernel
theorem dX10_likeness_25 : decode cX10_likeness 25 = .ok (.aload_n 0, 1) := by decide +kernel
theorem dX10_likeness_26 : decode cX10_likeness 26 = .ok (.iconst 1, 1) := by decide +kernel
theorem dX10_likeness_27 : decode cX10_likeness 27 = .ok (.invokevirtual 138, 3) := by decide +kernel
theorem dX10_likeness_30 : decode cX10_likeness 30 = .ok (.ireturn, 1) := by decide +kernel
theorem dX10_chance_0 : decode cX10_chance 0 = .ok (.aload_n 0, 1) := by decide +kernel
theorem dX10_chance_1 : decode cX10_chance 1 = .ok (.iload_n 1, 1) := by decide +kernel
theorem dX10_chance_2 : decode cX10_chance 2 = .ok (.invokevirtual 156, 3) := by decide +kernel
theorem dX10_chance_5 : decode cX10_chance 5 = .ok (.ifCond .eq 11, 3) := by decide +kernel
theorem dX10_chance_8 : decode cX10_chance 8 = .ok (.aload_n 0, 1) := by decide +kernel
theorem dX10_chance_9 : decode cX10_chance 9 = .ok (.iload_n 2, 1) := by decide +kernel
theorem dX10_chance_10 : decode cX10_chance 10 = .ok (.invokevirtual 150, 3) := by decide +kernel
theorem dX10_chance_13 : decode cX10_chance 13 = .ok (.ifCond .ne 9, 3) := by decide +kernel
theorem dX10_chance_16 : decode cX10_chance 16 = .ok (.aload_n 0, 1) := by decide +kernel
theorem dX10_chance_17 : decode cX10_chance 17 = .ok (.iconst 1, 1) := by decide +kernel
theorem dX10_chance_18 : decode cX10_chance 18 = .ok (.invokevirtual 138, 3) := by decide +kernel
theorem dX10_chance_21 : decode cX10_chance 21 = .ok (.ireturn, 1) := by decide +kernel
theorem dX10_chance_22 : decode cX10_chance 22 = .ok (.iconst 0, 1) := by decide +kernel
theorem dX10_chance_23 : decode cX10_chance 23 = .ok (.istore_n 3, 1) := by decide +kernel
theorem dX10_chance_24 : decode cX10_chance 24 = .ok (.iconst 0, 1) := by decide +kernel
theorem dX10_chance_25 : decode cX10_chance 25 = .ok (.istore 4, 2) := by decide +kernel
theorem dX10_chance_27 : decode cX10_chance 27 = .ok (.iload 4, 2) := by decide +kernel
theorem dX10_chance_29 : decode cX10_chance 29 = .ok (.aload_n 0, 1) := by decide +kernel
theorem dX10_chance_30 : decode cX10_chance 30 = .ok (.getfield 128, 3) := by decide +kernel
theorem dX10_chance_33 : decode cX10_chance 33 = .ok (.if_icmp .ge 27, 3) := by decide +kernel
theorem dX10_chance_36 : decode cX10_chance 36 = .ok (.iload_n 3, 1) := by decide +kernel
theorem dX10_chance_37 : decode cX10_chance 37 = .ok (.aload_n 0, 1) := by decide +kernel
theorem dX10_chance_38 : decode cX10_chance 38 = .ok (.iload 4, 2) := by decide +kernel
theorem dX10_chance_40 : decode cX10_chance 40 = .ok (.iload_n 2, 1) := by decide +kernel
theorem dX10_chance_41 : decode cX10_chance 41 = .ok (.invokevirtual 159, 3) := by decide +kernel
theorem dX10_chance_44 : decode cX10_chance 44 = .ok (.aload_n 0, 1) := by decide +kernel
theorem dX10_chance_45 : decode cX10_chance 45 = .ok (.iload 4, 2) := by decide +kernel
theorem dX10_chance_47 : decode cX10_chance 47 = .ok (.iload_n 2, 1) := by decide +kernel
theorem dX10_chance_48 : decode cX10_chance 48 = .ok (.invokevirtual 159, 3) := by decide +kernel
theorem dX10_chance_51 : decode cX10_chance 51 = .ok (.imul, 1) := by decide +kernel
theorem dX10_chance_52 : decode cX10_chance 52 = .ok (.iadd, 1) := by decide +kernel
theorem dX10_chance_53 : decode cX10_chance 53 = .ok (.istore_n 3, 1) := by decide +kernel
theorem dX10_chance_54 : decode cX10_chance 54 = .ok (.iinc 4 1, 3) := by decide +kernel
theorem dX10_chance_57 : decode cX10_chance 57 = .ok (.goto (-30), 3) := by decide +kernel
theorem dX10_chance_60 : decode cX10_chance 60 = .ok (.iload_n 3, 1) := by decide +kernel
theorem dX10_chance_61 : decode cX10_chance 61 = .ok (.ifCond .ne 7, 3) := by decide +kernel
theorem dX10_chance_64 : decode cX10_chance 64 = .ok (.iconst 0, 1) := by decide +kernel
theorem dX10_chance_65 : decode cX10_chance 65 = .ok (.goto 22, 3) := by decide +kernel
theorem dX10_chance_68 : decode cX10_chance 68 = .ok (.sipush 1000, 3) := by decide +kernel
theorem dX10_chance_71 : decode cX10_chance 71 = .ok (.aload_n 0, 1) := by decide +kernel
theorem dX10_chance_72 : decode cX10_chance 72 = .ok (.iload_n 1, 1) := by decide +kernel
theorem dX10_chance_73 : decode cX10_chance 73 = .ok (.iload_n 2, 1) := by decide +kernel
theorem dX10_chance_74 : decode cX10_chance 74 = .ok (.invokevirtual 159, 3) := by decide +kernel
theorem dX10_chance_77 : decode cX10_chance 77 = .ok (.imul, 1) := by decide +kernel
theorem dX10_chance_78 : decode cX10_chance 78 = .ok (.aload_n 0, 1) := by decide +kernel
theorem dX10_chance_79 : decode cX10_chance 79 = .ok (.iload_n 1, 1) := by decide +kernel
theorem dX10_chance_80 : decode cX10_chance 80 = .ok (.iload_n 2, 1) := by decide +kernel
theorem dX10_chance_81 : decode cX10_chance 81 = .ok (.invokevirtual 159, 3) := by decide +kernel
theorem dX10_chance_84 : decode cX10_chance 84 = .ok (.imul, 1) := by decide +kernel
theorem dX10_chance_85 : decode cX10_chance 85 = .ok (.iload_n 3, 1) := by decide +kernel
theorem dX10_chance_86 : decode cX10_chance 86 = .ok (.idiv, 1) := by decide +kernel
theorem dX10_chance_87 : decode cX10_chance 87 = .ok (.ireturn, 1) := by decide +kernel
theorem dX10_mostOf_0 : decode cX10_mostOf 0 = .ok (.iconst 0, 1) := by decide +kernel
theorem dX10_mostOf_1 : decode cX10_mostOf 1 = .ok (.istore_n 3, 1) := by decide +kernel
theorem dX10_mostOf_2 : decode cX10_mostOf 2 = .ok (.iload_n 3, 1) := by decide +kernel
theorem dX10_mostOf_3 : decode cX10_mostOf 3 = .ok (.sipush 256, 3) := by decide +kernel
theorem dX10_mostOf_6 : decode cX10_mostOf 6 = .ok (.if_icmp .ge 16, 3) := by decide +kernel
theorem dX10_mostOf_9 : decode cX10_mostOf 9 = .ok (.aload_n 0, 1) := by decide +kernel
theorem dX10_mostOf_10 : decode cX10_mostOf 10 = .ok (.getfield 99, 3) := by decide +kernel
theorem dX10_mostOf_13 : decode cX10_mostOf 13 = .ok (.iload_n 3, 1) := by decide +kernel
theorem dX10_mostOf_14 : decode cX10_mostOf 14 = .ok (.iconst 0, 1) := by decide +kernel
theorem dX10_mostOf_15 : decode cX10_mostOf 15 = .ok (.iastore, 1) := by decide +kernel
theorem dX10_mostOf_16 : decode cX10_mostOf 16 = .ok (.iinc 3 1, 3) := by decide +kernel
theorem dX10_mostOf_19 : decode cX10_mostOf 19 = .ok (.goto (-17), 3) := by decide +kernel
theorem dX10_mostOf_22 : decode cX10_mostOf 22 = .ok (.iconst 0, 1) := by decide +kernel
theorem dX10_mostOf_23 : decode cX10_mostOf 23 = .ok (.istore_n 3, 1) := by decide +kernel
theorem dX10_mostOf_24 : decode cX10_mostOf 24 = .ok (.iload_n 3, 1) := by decide +kernel
theorem dX10_mostOf_25 : decode cX10_mostOf 25 = .ok (.aload_n 0, 1) := by decide +kernel
theorem dX10_mostOf_26 : decode cX10_mostOf 26 = .ok (.getfield 125, 3) := by decide +kernel
theorem dX10_mostOf_29 : decode cX10_mostOf 29 = .ok (.if_icmp .ge 184, 3) := by decide +kernel
theorem dX10_mostOf_32 : decode cX10_mostOf 32 = .ok (.iconst 0, 1) := by decide +kernel
theorem dX10_mostOf_33 : decode cX10_mostOf 33 = .ok (.istore 4, 2) := by decide +kernel
theorem dX10_mostOf_35 : decode cX10_mostOf 35 = .ok (.iload 4, 2) := by decide +kernel
theorem dX10_mostOf_37 : decode cX10_mostOf 37 = .ok (.iconst 1, 1) := by decide +kernel
theorem dX10_mostOf_38 : decode cX10_mostOf 38 = .ok (.aload_n 0, 1) := by decide +kernel
theorem dX10_mostOf_39 : decode cX10_mostOf 39 = .ok (.getfield 128, 3) := by decide +kernel
theorem dX10_mostOf_42 : decode cX10_mostOf 42 = .ok (.ishl, 1) := by decide +kernel
theorem dX10_mostOf_43 : decode cX10_mostOf 43 = .ok (.if_icmp .ge 122, 3) := by decide +kernel
theorem dX10_mostOf_46 : decode cX10_mostOf 46 = .ok (.iload_n 2, 1) := by decide +kernel
theorem dX10_mostOf_47 : decode cX10_mostOf 47 = .ok (.iload_n 3, 1) := by decide +kernel
theorem dX10_mostOf_48 : decode cX10_mostOf 48 = .ok (.ishr, 1) := by decide +kernel
theorem dX10_mostOf_49 : decode cX10_mostOf 49 = .ok (.iconst 1, 1) := by decide +kernel
theorem dX10_mostOf_50 : decode cX10_mostOf 50 = .ok (.iand, 1) := by decide +kernel
theorem dX10_mostOf_51 : decode cX10_mostOf 51 = .ok (.ifCond .ne 114, 3) := by decide +kernel
theorem dX10_mostOf_54 : decode cX10_mostOf 54 = .ok (.aload_n 0, 1) := by decide +kernel
theorem dX10_mostOf_55 : decode cX10_mostOf 55 = .ok (.getfield 102, 3) := by decide +kernel
theorem dX10_mostOf_58 : decode cX10_mostOf 58 = .ok (.iload 4, 2) := by decide +kernel
theorem dX10_mostOf_60 : decode cX10_mostOf 60 = .ok (.aload_n 0, 1) := by decide +kernel
theorem dX10_mostOf_61 : decode cX10_mostOf 61 = .ok (.getfield 99, 3) := by decide +kernel
theorem dX10_mostOf_64 : decode cX10_mostOf 64 = .ok (.iload 4, 2) := by decide +kernel
theorem dX10_mostOf_66 : decode cX10_mostOf 66 = .ok (.iaload, 1) := by decide +kernel
theorem dX10_mostOf_67 : decode cX10_mostOf 67 = .ok (.iastore, 1) := by decide +kernel
theorem dX10_mostOf_68 : decode cX10_mostOf 68 = .ok (.iconst 0, 1) := by decide +kernel
theorem dX10_mostOf_69 : decode cX10_mostOf 69 = .ok (.istore 5, 2) := by decide +kernel
theorem dX10_mostOf_71 : decode cX10_mostOf 71 = .ok (.iload 5, 2) := by decide +kernel
theorem dX10_mostOf_73 : decode cX10_mostOf 73 = .ok (.aload_n 0, 1) := by decide +kernel
theorem dX10_mostOf_74 : decode cX10_mostOf 74 = .ok (.getfield 128, 3) := by decide +kernel
theorem dX10_mostOf_77 : decode cX10_mostOf 77 = .ok (.if_icmp .ge 82, 3) := by decide +kernel
theorem dX10_mostOf_80 : decode cX10_mostOf 80 = .ok (.iload 4, 2) := by decide +kernel
theorem dX10_mostOf_82 : decode cX10_mostOf 82 = .ok (.iload 5, 2) := by decide +kernel
theorem dX10_mostOf_84 : decode cX10_mostOf 84 = .ok (.ishr, 1) := by decide +kernel
theorem dX10_mostOf_85 : decode cX10_mostOf 85 = .ok (.iconst 1, 1) := by decide +kernel
theorem dX10_mostOf_86 : decode cX10_mostOf 86 = .ok (.iand, 1) := by decide +kernel
theorem dX10_mostOf_87 : decode cX10_mostOf 87 = .ok (.iconst 1, 1) := by decide +kernel
theorem dX10_mostOf_88 : decode cX10_mostOf 88 = .ok (.if_icmp .ne 31, 3) := by decide +kernel
theorem dX10_mostOf_91 : decode cX10_mostOf 91 = .ok (.aload_n 0, 1) := by decide +kernel
theorem dX10_mostOf_92 : decode cX10_mostOf 92 = .ok (.getfield 105, 3) := by decide +kernel
theorem dX10_mostOf_95 : decode cX10_mostOf 95 = .ok (.bipush 20, 2) := by decide +kernel
theorem dX10_mostOf_97 : decode cX10_mostOf 97 = .ok (.iload 5, 2) := by decide +kernel
theorem dX10_mostOf_99 : decode cX10_mostOf 99 = .ok (.imul, 1) := by decide +kernel
theorem dX10_mostOf_100 : decode cX10_mostOf 100 = .ok (.iload_n 3, 1) := by decide +kernel
theorem dX10_mostOf_101 : decode cX10_mostOf 101 = .ok (.iadd, 1) := by decide +kernel
theorem dX10_mostOf_102 : decode cX10_mostOf 102 = .ok (.iaload, 1) := by decide +kernel
theorem dX10_mostOf_103 : decode cX10_mostOf 103 = .ok (.aload_n 0, 1) := by decide +kernel
theorem dX10_mostOf_104 : decode cX10_mostOf 104 = .ok (.getfield 99, 3) := by decide +kernel
theorem dX10_mostOf_107 : decode cX10_mostOf 107 = .ok (.iload 4, 2) := by decide +kernel
theorem dX10_mostOf_109 : decode cX10_mostOf 109 = .ok (.iconst 1, 1) := by decide +kernel
theorem dX10_mostOf_110 : decode cX10_mostOf 110 = .ok (.iload 5, 2) := by decide +kernel
theorem dX10_mostOf_112 : decode cX10_mostOf 112 = .ok (.ishl, 1) := by decide +kernel
theorem dX10_mostOf_113 : decode cX10_mostOf 113 = .ok (.ixor, 1) := by decide +kernel
theorem dX10_mostOf_114 : decode cX10_mostOf 114 = .ok (.iaload, 1) := by decide +kernel
theorem dX10_mostOf_115 : decode cX10_mostOf 115 = .ok (.iadd, 1) := by decide +kernel
theorem dX10_mostOf_116 : decode cX10_mostOf 116 = .ok (.goto 4, 3) := by decide +kernel
theorem dX10_mostOf_119 : decode cX10_mostOf 119 = .ok (.iconst 0, 1) := by decide +kernel
theorem dX10_mostOf_120 : decode cX10_mostOf 120 = .ok (.istore 6, 2) := by decide +kernel
theorem dX10_mostOf_122 : decode cX10_mostOf 122 = .ok (.aload_n 0, 1) := by decide +kernel
theorem dX10_mostOf_123 : decode cX10_mostOf 123 = .ok (.getfield 102, 3) := by decide +kernel
theorem dX10_mostOf_126 : decode cX10_mostOf 126 = .ok (.iload 4, 2) := by decide +kernel
theorem dX10_mostOf_128 : decode cX10_mostOf 128 = .ok (.iload 6, 2) := by decide +kernel
theorem dX10_mostOf_130 : decode cX10_mostOf 130 = .ok (.aload_n 0, 1) := by decide +kernel
theorem dX10_mostOf_131 : decode cX10_mostOf 131 = .ok (.getfield 102, 3) := by decide +kernel
theorem dX10_mostOf_134 : decode cX10_mostOf 134 = .ok (.iload 4, 2) := by decide +kernel
theorem dX10_mostOf_136 : decode cX10_mostOf 136 = .ok (.iaload, 1) := by decide +kernel
theorem dX10_mostOf_137 : decode cX10_mostOf 137 = .ok (.if_icmp .le 8, 3) := by decide +kernel
theorem dX10_mostOf_140 : decode cX10_mostOf 140 = .ok (.iload 6, 2) := by decide +kernel
theorem dX10_mostOf_142 : decode cX10_mostOf 142 = .ok (.goto 10, 3) := by decide +kernel
theorem dX10_mostOf_145 : decode cX10_mostOf 145 = .ok (.aload_n 0, 1) := by decide +kernel
theorem dX10_mostOf_146 : decode cX10_mostOf 146 = .ok (.getfield 102, 3) := by decide +kernel
theorem dX10_mostOf_149 : decode cX10_mostOf 149 = .ok (.iload 4, 2) := by decide +kernel
theorem dX10_mostOf_151 : decode cX10_mostOf 151 = .ok (.iaload, 1) := by decide +kernel
theorem dX10_mostOf_152 : decode cX10_mostOf 152 = .ok (.iastore, 1) := by decide +kernel
theorem dX10_mostOf_153 : decode cX10_mostOf 153 = .ok (.iinc 5 1, 3) := by decide +kernel
theorem dX10_mostOf_156 : decode cX10_mostOf 156 = .ok (.goto (-85), 3) := by decide +kernel
theorem dX10_mostOf_159 : decode cX10_mostOf 159 = .ok (.iinc 4 1, 3) := by decide +kernel
theorem dX10_mostOf_162 : decode cX10_mostOf 162 = .ok (.goto (-127), 3) := by decide +kernel
theorem dX10_mostOf_165 : decode cX10_mostOf 165 = .ok (.iconst 0, 1) := by decide +kernel
theorem dX10_mostOf_166 : decode cX10_mostOf 166 = .ok (.istore 4, 2) := by decide +kernel
theorem dX10_mostOf_168 : decode cX10_mostOf 168 = .ok (.iload 4, 2) := by decide +kernel
theorem dX10_mostOf_170 : decode cX10_mostOf 170 = .ok (.iconst 1, 1) := by decide +kernel
theorem dX10_mostOf_171 : decode cX10_mostOf 171 = .ok (.aload_n 0, 1) := by decide +kernel
theorem dX10_mostOf_172 : decode cX10_mostOf 172 = .ok (.getfield 128, 3) := by decide +kernel
theorem dX10_mostOf_175 : decode cX10_mostOf 175 = .ok (.ishl, 1) := by decide +kernel
theorem dX10_mostOf_176 : decode cX10_mostOf 176 = .ok (.if_icmp .ge 31, 3) := by decide +kernel
theorem dX10_mostOf_179 : decode cX10_mostOf 179 = .ok (.iload_n 2, 1) := by decide +kernel
theorem dX10_mostOf_180 : decode cX10_mostOf 180 = .ok (.iload_n 3, 1) := by decide +kernel
theorem dX10_mostOf_181 : decode cX10_mostOf 181 = .ok (.ishr, 1) := by decide +kernel
theorem dX10_mostOf_182 : decode cX10_mostOf 182 = .ok (.iconst 1, 1) := by decide +kernel
theorem dX10_mostOf_183 : decode cX10_mostOf 183 = .ok (.iand, 1) := by decide +kernel
theorem dX10_mostOf_184 : decode cX10_mostOf 184 = .ok (.ifCond .ne 23, 3) := by decide +kernel
theorem dX10_mostOf_187 : decode cX10_mostOf 187 = .ok (.aload_n 0, 1) := by decide +kernel
theorem dX10_mostOf_188 : decode cX10_mostOf 188 = .ok (.getfield 99, 3) := by decide +kernel
theorem dX10_mostOf_191 : decode cX10_mostOf 191 = .ok (.iload 4, 2) := by decide +kernel
theorem dX10_mostOf_193 : decode cX10_mostOf 193 = .ok (.aload_n 0, 1) := by decide +kernel
theorem dX10_mostOf_194 : decode cX10_mostOf 194 = .ok (.getfield 102, 3) := by decide +kernel
theorem dX10_mostOf_197 : decode cX10_mostOf 197 = .ok (.iload 4, 2) := by decide +kernel
theorem dX10_mostOf_199 : decode cX10_mostOf 199 = .ok (.iaload, 1) := by decide +kernel
theorem dX10_mostOf_200 : decode cX10_mostOf 200 = .ok (.iastore, 1) := by decide +kernel
theorem dX10_mostOf_201 : decode cX10_mostOf 201 = .ok (.iinc 4 1, 3) := by decide +kernel
theorem dX10_mostOf_204 : decode cX10_mostOf 204 = .ok (.goto (-36), 3) := by decide +kernel
theorem dX10_mostOf_207 : decode cX10_mostOf 207 = .ok (.iinc 3 1, 3) := by decide +kernel
theorem dX10_mostOf_210 : decode cX10_mostOf 210 = .ok (.goto (-186), 3) := by decide +kernel
theorem dX10_mostOf_213 : decode cX10_mostOf 213 = .ok (.aload_n 0, 1) := by decide +kernel
theorem dX10_mostOf_214 : decode cX10_mostOf 214 = .ok (.getfield 99, 3) := by decide +kernel
theorem dX10_mostOf_217 : decode cX10_mostOf 217 = .ok (.iload_n 1, 1) := by decide +kernel
theorem dX10_mostOf_218 : decode cX10_mostOf 218 = .ok (.iaload, 1) := by decide +kernel
theorem dX10_mostOf_219 : decode cX10_mostOf 219 = .ok (.ireturn, 1) := by decide +kernel
theorem dX10_tellMatch_0 : decode cX10_tellMatch 0 = .ok (.iconst 1, 1) := by decide +kernel
theorem dX10_tellMatch_1 : decode cX10_tellMatch 1 = .ok (.aload_n 0, 1) := by decide +kernel
theorem dX10_tellMatch_2 : decode cX10_tellMatch 2 = .ok (.getfield 128, 3) := by decide +kernel
theorem dX10_tellMatch_5 : decode cX10_tellMatch 5 = .ok (.ishl, 1) := by decide +kernel
theorem dX10_tellMatch_6 : decode cX10_tellMatch 6 = .ok (.iconst 1, 1) := by decide +kernel
theorem dX10_tellMatch_7 : decode cX10_tellMatch 7 = .ok (.isub, 1) := by decide +kernel
theorem dX10_tellMatch_8 : decode cX10_tellMatch 8 = .ok (.istore_n 1, 1) := by decide +kernel
theorem dX10_tellMatch_9 : decode cX10_tellMatch 9 = .ok (.iconst 0, 1) := by decide +kernel
theorem dX10_tellMatch_10 : decode cX10_tellMatch 10 = .ok (.istore_n 2, 1) := by decide +kernel
theorem dX10_tellMatch_11 : decode cX10_tellMatch 11 = .ok (.iconst 0, 1) := by decide +kernel
theorem dX10_tellMatch_12 : decode cX10_tellMatch 12 = .ok (.istore_n 3, 1) := by decide +kernel
theorem dX10_tellMatch_13 : decode cX10_tellMatch 13 = .ok (.iload_n 3, 1) := by decide +kernel
theorem dX10_tellMatch_14 : decode cX10_tellMatch 14 = .ok (.bipush 20, 2) := by decide +kernel
theorem dX10_tellMatch_16 : decode cX10_tellMatch 16 = .ok (.aload_n 0, 1) := by decide +kernel
theorem dX10_tellMatch_17 : decode cX10_tellMatch 17 = .ok (.getfield 128, 3) := by decide +kernel
theorem dX10_tellMatch_20 : decode cX10_tellMatch 20 = .ok (.imul, 1) := by decide +kernel
theorem dX10_tellMatch_21 : decode cX10_tellMatch 21 = .ok (.if_icmp .ge 42, 3) := by decide +kernel
theorem dX10_tellMatch_24 : decode cX10_tellMatch 24 = .ok (.aload_n 0, 1) := by decide +kernel
theorem dX10_tellMatch_25 : decode cX10_tellMatch 25 = .ok (.getfield 105, 3) := by decide +kernel
theorem dX10_tellMatch_28 : decode cX10_tellMatch 28 = .ok (.iload_n 3, 1) := by decide +kernel
theorem dX10_tellMatch_29 : decode cX10_tellMatch 29 = .ok (.iload_n 3, 1) := by decide +kernel
theorem dX10_tellMatch_30 : decode cX10_tellMatch 30 = .ok (.bipush 20, 2) := by decide +kernel
theorem dX10_tellMatch_32 : decode cX10_tellMatch 32 = .ok (.irem, 1) := by decide +kernel
theorem dX10_tellMatch_33 : decode cX10_tellMatch 33 = .ok (.aload_n 0, 1) := by decide +kernel
theorem dX10_tellMatch_34 : decode cX10_tellMatch 34 = .ok (.getfield 125, 3) := by decide +kernel
theorem dX10_tellMatch_37 : decode cX10_tellMatch 37 = .ok (.if_icmp .ge 18, 3) := by decide +kernel
theorem dX10_tellMatch_40 : decode cX10_tellMatch 40 = .ok (.aload_n 0, 1) := by decide +kernel
theorem dX10_tellMatch_41 : decode cX10_tellMatch 41 = .ok (.iload_n 3, 1) := by decide +kernel
theorem dX10_tellMatch_42 : decode cX10_tellMatch 42 = .ok (.bipush 20, 2) := by decide +kernel
theorem dX10_tellMatch_44 : decode cX10_tellMatch 44 = .ok (.idiv, 1) := by decide +kernel
theorem dX10_tellMatch_45 : decode cX10_tellMatch 45 = .ok (.iload_n 3, 1) := by decide +kernel
theorem dX10_tellMatch_46 : decode cX10_tellMatch 46 = .ok (.bipush 20, 2) := by decide +kernel
theorem dX10_tellMatch_48 : decode cX10_tellMatch 48 = .ok (.irem, 1) := by decide +kernel
theorem dX10_tellMatch_49 : decode cX10_tellMatch 49 = .ok (.invokevirtual 159, 3) := by decide +kernel
theorem dX10_tellMatch_52 : decode cX10_tellMatch 52 = .ok (.goto 4, 3) := by decide +kernel
theorem dX10_tellMatch_55 : decode cX10_tellMatch 55 = .ok (.iconst 0, 1) := by decide +kernel
theorem dX10_tellMatch_56 : decode cX10_tellMatch 56 = .ok (.iastore, 1) := by decide +kernel
theorem dX10_tellMatch_57 : decode cX10_tellMatch 57 = .ok (.iinc 3 1, 3) := by decide +kernel
theorem dX10_tellMatch_60 : decode cX10_tellMatch 60 = .ok (.goto (-47), 3) := by decide +kernel
theorem dX10_tellMatch_63 : decode cX10_tellMatch 63 = .ok (.aload_n 0, 1) := by decide +kernel
theorem dX10_tellMatch_64 : decode cX10_tellMatch 64 = .ok (.iload_n 1, 1) := by decide +kernel
theorem dX10_tellMatch_65 : decode cX10_tellMatch 65 = .ok (.iconst 0, 1) := by decide +kernel
theorem dX10_tellMatch_66 : decode cX10_tellMatch 66 = .ok (.invokevirtual 163, 3) := by decide +kernel
theorem dX10_tellMatch_69 : decode cX10_tellMatch 69 = .ok (.istore_n 3, 1) := by decide +kernel
theorem dX10_tellMatch_70 : decode cX10_tellMatch 70 = .ok (.iload_n 3, 1) := by decide +kernel
theorem dX10_tellMatch_71 : decode cX10_tellMatch 71 = .ok (.istore 4, 2) := by decide +kernel
theorem dX10_tellMatch_73 : decode cX10_tellMatch 73 = .ok (.iconst 0, 1) := by decide +kernel
theorem dX10_tellMatch_74 : decode cX10_tellMatch 74 = .ok (.istore 5, 2) := by decide +kernel
theorem dX10_tellMatch_76 : decode cX10_tellMatch 76 = .ok (.iload 5, 2) := by decide +kernel
theorem dX10_tellMatch_78 : decode cX10_tellMatch 78 = .ok (.aload_n 0, 1) := by decide +kernel
theorem dX10_tellMatch_79 : decode cX10_tellMatch 79 = .ok (.getfield 128, 3) := by decide +kernel
theorem dX10_tellMatch_82 : decode cX10_tellMatch 82 = .ok (.if_icmp .ge 123, 3) := by decide +kernel
theorem dX10_tellMatch_85 : decode cX10_tellMatch 85 = .ok (.iload_n 1, 1) := by decide +kernel
theorem dX10_tellMatch_86 : decode cX10_tellMatch 86 = .ok (.iconst 1, 1) := by decide +kernel
theorem dX10_tellMatch_87 : decode cX10_tellMatch 87 = .ok (.iload 5, 2) := by decide +kernel
theorem dX10_tellMatch_89 : decode cX10_tellMatch 89 = .ok (.ishl, 1) := by decide +kernel
theorem dX10_tellMatch_90 : decode cX10_tellMatch 90 = .ok (.ixor, 1) := by decide +kernel
theorem dX10_tellMatch_91 : decode cX10_tellMatch 91 = .ok (.istore_n 1, 1) := by decide +kernel
theorem dX10_tellMatch_92 : decode cX10_tellMatch 92 = .ok (.aload_n 0, 1) := by decide +kernel
theorem dX10_tellMatch_93 : decode cX10_tellMatch 93 = .ok (.getfield 96, 3) := by decide +kernel
theorem dX10_tellMatch_96 : decode cX10_tellMatch 96 = .ok (.iload 5, 2) := by decide +kernel
theorem dX10_tellMatch_98 : decode cX10_tellMatch 98 = .ok (.iconst (-1), 1) := by decide +kernel
theorem dX10_tellMatch_99 : decode cX10_tellMatch 99 = .ok (.iastore, 1) := by decide +kernel
theorem dX10_tellMatch_100 : decode cX10_tellMatch 100 = .ok (.iconst 0, 1) := by decide +kernel
theorem dX10_tellMatch_101 : decode cX10_tellMatch 101 = .ok (.istore 6, 2) := by decide +kernel
theorem dX10_tellMatch_103 : decode cX10_tellMatch 103 = .ok (.iload 6, 2) := by decide +kernel
theorem dX10_tellMatch_105 : decode cX10_tellMatch 105 = .ok (.aload_n 0, 1) := by decide +kernel
theorem dX10_tellMatch_106 : decode cX10_tellMatch 106 = .ok (.getfield 125, 3) := by decide +kernel
theorem dX10_tellMatch_109 : decode cX10_tellMatch 109 = .ok (.if_icmp .ge 90, 3) := by decide +kernel
theorem dX10_tellMatch_112 : decode cX10_tellMatch 112 = .ok (.aload_n 0, 1) := by decide +kernel
theorem dX10_tellMatch_113 : decode cX10_tellMatch 113 = .ok (.getfield 96, 3) := by decide +kernel
theorem dX10_tellMatch_116 : decode cX10_tellMatch 116 = .ok (.iload 5, 2) := by decide +kernel
theorem dX10_tellMatch_118 : decode cX10_tellMatch 118 = .ok (.iaload, 1) := by decide +kernel
theorem dX10_tellMatch_119 : decode cX10_tellMatch 119 = .ok (.ifCond .ge 80, 3) := by decide +kernel
theorem dX10_tellMatch_122 : decode cX10_tellMatch 122 = .ok (.aload_n 0, 1) := by decide +kernel
theorem dX10_tellMatch_123 : decode cX10_tellMatch 123 = .ok (.getfield 105, 3) := by decide +kernel
theorem dX10_tellMatch_126 : decode cX10_tellMatch 126 = .ok (.bipush 20, 2) := by decide +kernel
theorem dX10_tellMatch_128 : decode cX10_tellMatch 128 = .ok (.iload 5, 2) := by decide +kernel
theorem dX10_tellMatch_130 : decode cX10_tellMatch 130 = .ok (.imul, 1) := by decide +kernel
theorem dX10_tellMatch_131 : decode cX10_tellMatch 131 = .ok (.iload 6, 2) := by decide +kernel
theorem dX10_tellMatch_133 : decode cX10_tellMatch 133 = .ok (.iadd, 1) := by decide +kernel
theorem dX10_tellMatch_134 : decode cX10_tellMatch 134 = .ok (.iaload, 1) := by decide +kernel
theorem dX10_tellMatch_135 : decode cX10_tellMatch 135 = .ok (.istore 7, 2) := by decide +kernel
theorem dX10_tellMatch_137 : decode cX10_tellMatch 137 = .ok (.iload_n 2, 1) := by decide +kernel
theorem dX10_tellMatch_138 : decode cX10_tellMatch 138 = .ok (.iload 6, 2) := by decide +kernel
theorem dX10_tellMatch_140 : decode cX10_tellMatch 140 = .ok (.ishr, 1) := by decide +kernel
theorem dX10_tellMatch_141 : decode cX10_tellMatch 141 = .ok (.iconst 1, 1) := by decide +kernel
theorem dX10_tellMatch_142 : decode cX10_tellMatch 142 = .ok (.iand, 1) := by decide +kernel
theorem dX10_tellMatch_143 : decode cX10_tellMatch 143 = .ok (.ifCond .ne 50, 3) := by decide +kernel
theorem dX10_tellMatch_146 : decode cX10_tellMatch 146 = .ok (.iload 7, 2) := by decide +kernel
theorem dX10_tellMatch_148 : decode cX10_tellMatch 148 = .ok (.ifCond .le 45, 3) := by decide +kernel
theorem dX10_tellMatch_151 : decode cX10_tellMatch 151 = .ok (.iload 7, 2) := by decide +kernel
theorem dX10_tellMatch_153 : decode cX10_tellMatch 153 = .ok (.aload_n 0, 1) := by decide +kernel
theorem dX10_tellMatch_154 : decode cX10_tellMatch 154 = .ok (.iload_n 1, 1) := by decide +kernel
theorem dX10_tellMatch_155 : decode cX10_tellMatch 155 = .ok (.iload_n 2, 1) := by decide +kernel
theorem dX10_tellMatch_156 : decode cX10_tellMatch 156 = .ok (.iconst 1, 1) := by decide +kernel
theorem dX10_tellMatch_157 : decode cX10_tellMatch 157 = .ok (.iload 6, 2) := by decide +kernel
theorem dX10_tellMatch_159 : decode cX10_tellMatch 159 = .ok (.ishl, 1) := by decide +kernel
theorem dX10_tellMatch_160 : decode cX10_tellMatch 160 = .ok (.ior, 1) := by decide +kernel
theorem dX10_tellMatch_161 : decode cX10_tellMatch 161 = .ok (.invokevirtual 163, 3) := by decide +kernel
theorem dX10_tellMatch_164 : decode cX10_tellMatch 164 = .ok (.iadd, 1) := by decide +kernel
theorem dX10_tellMatch_165 : decode cX10_tellMatch 165 = .ok (.iload 4, 2) := by decide +kernel
theorem dX10_tellMatch_167 : decode cX10_tellMatch 167 = .ok (.if_icmp .ne 26, 3) := by decide +kernel
theorem dX10_tellMatch_170 : decode cX10_tellMatch 170 = .ok (.aload_n 0, 1) := by decide +kernel
theorem dX10_tellMatch_171 : decode cX10_tellMatch 171 = .ok (.getfield 96, 3) := by decide +kernel
theorem dX10_tellMatch_174 : decode cX10_tellMatch 174 = .ok (.iload 5, 2) := by decide +kernel
theorem dX10_tellMatch_176 : decode cX10_tellMatch 176 = .ok (.iload 6, 2) := by decide +kernel
theorem dX10_tellMatch_178 : decode cX10_tellMatch 178 = .ok (.iastore, 1) := by decide +kernel
theorem dX10_tellMatch_179 : decode cX10_tellMatch 179 = .ok (.iload_n 2, 1) := by decide +kernel
theorem dX10_tellMatch_180 : decode cX10_tellMatch 180 = .ok (.iconst 1, 1) := by decide +kernel
theorem dX10_tellMatch_181 : decode cX10_tellMatch 181 = .ok (.iload 6, 2) := by decide +kernel
theorem dX10_tellMatch_183 : decode cX10_tellMatch 183 = .ok (.ishl, 1) := by decide +kernel
theorem dX10_tellMatch_184 : decode cX10_tellMatch 184 = .ok (.ior, 1) := by decide +kernel
theorem dX10_tellMatch_185 : decode cX10_tellMatch 185 = .ok (.istore_n 2, 1) := by decide +kernel
theorem dX10_tellMatch_186 : decode cX10_tellMatch 186 = .ok (.iload 4, 2) := by decide +kernel
theorem dX10_tellMatch_188 : decode cX10_tellMatch 188 = .ok (.iload 7, 2) := by decide +kernel
theorem dX10_tellMatch_190 : decode cX10_tellMatch 190 = .ok (.isub, 1) := by decide +kernel
theorem dX10_tellMatch_191 : decode cX10_tellMatch 191 = .ok (.istore 4, 2) := by decide +kernel
theorem dX10_tellMatch_193 : decode cX10_tellMatch 193 = .ok (.iinc 6 1, 3) := by decide +kernel
theorem dX10_tellMatch_196 : decode cX10_tellMatch 196 = .ok (.goto (-93), 3) := by decide +kernel
theorem dX10_tellMatch_199 : decode cX10_tellMatch 199 = .ok (.iinc 5 1, 3) := by decide +kernel
theorem dX10_tellMatch_202 : decode cX10_tellMatch 202 = .ok (.goto (-126), 3) := by decide +kernel
theorem dX10_tellMatch_205 : decode cX10_tellMatch 205 = .ok (.iload_n 3, 1) := by decide +kernel
theorem dX10_tellMatch_206 : decode cX10_tellMatch 206 = .ok (.ireturn, 1) := by decide +kernel
theorem dX10_match_0 : decode cX10_match 0 = .ok (.iload_n 1, 1) := by decide +kernel
theorem dX10_match_1 : decode cX10_match 1 = .ok (.iconst (-1), 1) := by decide +kernel
theorem dX10_match_2 : decode cX10_match 2 = .ok (.if_icmp .eq 17, 3) := by decide +kernel
theorem dX10_match_5 : decode cX10_match 5 = .ok (.aload_n 0, 1) := by decide +kernel
theorem dX10_match_6 : decode cX10_match 6 = .ok (.iload_n 1, 1) := by decide +kernel
theorem dX10_match_7 : decode cX10_match 7 = .ok (.invokevirtual 156, 3) := by decide +kernel
theorem dX10_match_10 : decode cX10_match 10 = .ok (.ifCond .ne 9, 3) := by decide +kernel
theorem dX10_match_13 : decode cX10_match 13 = .ok (.aload_n 0, 1) := by decide +kernel
theorem dX10_match_14 : decode cX10_match 14 = .ok (.iconst 1, 1) := by decide +kernel
theorem dX10_match_15 : decode cX10_match 15 = .ok (.invokevirtual 138, 3) := by decide +kernel
theorem dX10_match_18 : decode cX10_match 18 = .ok (.ireturn, 1) := by decide +kernel
theorem dX10_match_19 : decode cX10_match 19 = .ok (.aload_n 0, 1) := by decide +kernel
theorem dX10_match_20 : decode cX10_match 20 = .ok (.invokevirtual 166, 3) := by decide +kernel
theorem dX10_match_23 : decode cX10_match 23 = .ok (.istore_n 2, 1) := by decide +kernel
theorem dX10_match_24 : decode cX10_match 24 = .ok (.iload_n 1, 1) := by decide +kernel
theorem dX10_match_25 : decode cX10_match 25 = .ok (.ifCond .ge 7, 3) := by decide +kernel
theorem dX10_match_28 : decode cX10_match 28 = .ok (.iload_n 2, 1) := by decide +kernel
theorem dX10_match_29 : decode cX10_match 29 = .ok (.goto 26, 3) := by decide +kernel
theorem dX10_match_32 : decode cX10_match 32 = .ok (.aload_n 0, 1) := by decide +kernel
theorem dX10_match_33 : decode cX10_match 33 = .ok (.getfield 96, 3) := by decide +kernel
theorem dX10_match_36 : decode cX10_match 36 = .ok (.iload_n 1, 1) := by decide +kernel
theorem dX10_match_37 : decode cX10_match 37 = .ok (.iaload, 1) := by decide +kernel
theorem dX10_match_38 : decode cX10_match 38 = .ok (.ifCond .ge 11, 3) := by decide +kernel
theorem dX10_match_41 : decode cX10_match 41 = .ok (.aload_n 0, 1) := by decide +kernel
theorem dX10_match_42 : decode cX10_match 42 = .ok (.iconst 2, 1) := by decide +kernel
theorem dX10_match_43 : decode cX10_match 43 = .ok (.invokevirtual 138, 3) := by decide +kernel
theorem dX10_match_46 : decode cX10_match 46 = .ok (.goto 9, 3) := by decide +kernel
theorem dX10_match_49 : decode cX10_match 49 = .ok (.aload_n 0, 1) := by decide +kernel
theorem dX10_match_50 : decode cX10_match 50 = .ok (.getfield 96, 3) := by decide +kernel
theorem dX10_match_53 : decode cX10_match 53 = .ok (.iload_n 1, 1) := by decide +kernel
theorem dX10_match_54 : decode cX10_match 54 = .ok (.iaload, 1) := by decide +kernel
theorem dX10_match_55 : decode cX10_match 55 = .ok (.ireturn, 1) := by decide +kernel
theorem dX10_seen_0 : decode cX10_seen 0 = .ok (.aload_n 0, 1) := by decide +kernel
theorem dX10_seen_1 : decode cX10_seen 1 = .ok (.iload_n 1, 1) := by decide +kernel
theorem dX10_seen_2 : decode cX10_seen 2 = .ok (.invokevirtual 156, 3) := by decide +kernel
theorem dX10_seen_5 : decode cX10_seen 5 = .ok (.ifCond .eq 12, 3) := by decide +kernel
theorem dX10_seen_8 : decode cX10_seen 8 = .ok (.iload_n 2, 1) := by decide +kernel
theorem dX10_seen_9 : decode cX10_seen 9 = .ok (.iconst 0, 1) := by decide +kernel
theorem dX10_seen_10 : decode cX10_seen 10 = .ok (.iconst 3, 1) := by decide +kernel
theorem dX10_seen_11 : decode cX10_seen 11 = .ok (.invokestatic 131, 3) := by decide +kernel
theorem dX10_seen_14 : decode cX10_seen 14 = .ok (.ifCond .ne 9, 3) := by decide +kernel
theorem dX10_seen_17 : decode cX10_seen 17 = .ok (.aload_n 0, 1) := by decide +kernel
theorem dX10_seen_18 : decode cX10_seen 18 = .ok (.iconst 1, 1) := by decide +kernel
theorem dX10_seen_19 : decode cX10_seen 19 = .ok (.invokevirtual 138, 3) := by decide +kernel
theorem dX10_seen_22 : decode cX10_seen 22 = .ok (.ireturn, 1) := by decide +kernel
theorem dX10_seen_23 : decode cX10_seen 23 = .ok (.iconst 0, 1) := by decide +kernel
theorem dX10_seen_24 : decode cX10_seen 24 = .ok (.istore_n 3, 1) := by decide +kernel
theorem dX10_seen_25 : decode cX10_seen 25 = .ok (.iload_n 2, 1) := by decide +kernel
theorem dX10_seen_26 : decode cX10_seen 26 = .ok (.tableswitch 55 0 2 #[26, 33, 40], 26) := by decide +kernel
theorem dX10_seen_52 : decode cX10_seen 52 = .ok (.aload_n 0, 1) := by decide +kernel
theorem dX10_seen_53 : decode cX10_seen 53 = .ok (.getfield 54, 3) := by decide +kernel
theorem dX10_seen_56 : decode cX10_seen 56 = .ok (.iload_n 1, 1) := by decide +kernel
theorem dX10_seen_57 : decode cX10_seen 57 = .ok (.iaload, 1) := by decide +kernel
theorem dX10_seen_58 : decode cX10_seen 58 = .ok (.ireturn, 1) := by decide +kernel
theorem dX10_seen_59 : decode cX10_seen 59 = .ok (.aload_n 0, 1) := by decide +kernel
theorem dX10_seen_60 : decode cX10_seen 60 = .ok (.getfield 66, 3) := by decide +kernel
theorem dX10_seen_63 : decode cX10_seen 63 = .ok (.iload_n 1, 1) := by decide +kernel
theorem dX10_seen_64 : decode cX10_seen 64 = .ok (.iaload, 1) := by decide +kernel
theorem dX10_seen_65 : decode cX10_seen 65 = .ok (.ireturn, 1) := by decide +kernel
theorem dX10_seen_66 : decode cX10_seen 66 = .ok (.aload_n 0, 1) := by decide +kernel
theorem dX10_seen_67 : decode cX10_seen 67 = .ok (.getfield 69, 3) := by decide +kernel
theorem dX10_seen_70 : decode cX10_seen 70 = .ok (.iload_n 1, 1) := by decide +kernel
theorem dX10_seen_71 : decode cX10_seen 71 = .ok (.baload, 1) := by decide +kernel
theorem dX10_seen_72 : decode cX10_seen 72 = .ok (.ifCond .eq 7, 3) := by decide +kernel
theorem dX10_seen_75 : decode cX10_seen 75 = .ok (.iconst 1, 1) := by decide +kernel
theorem dX10_seen_76 : decode cX10_seen 76 = .ok (.goto 4, 3) := by decide +kernel
theorem dX10_seen_79 : decode cX10_seen 79 = .ok (.iconst 0, 1) := by decide +kernel
theorem dX10_seen_80 : decode cX10_seen 80 = .ok (.ireturn, 1) := by decide +kernel
theorem dX10_seen_81 : decode cX10_seen 81 = .ok (.iconst 0, 1) := by decide +kernel
theorem dX10_seen_82 : decode cX10_seen 82 = .ok (.istore 4, 2) := by decide +kernel
theorem dX10_seen_84 : decode cX10_seen 84 = .ok (.iload 4, 2) := by decide +kernel
theorem dX10_seen_86 : decode cX10_seen 86 = .ok (.aload_n 0, 1) := by decide +kernel
theorem dX10_seen_87 : decode cX10_seen 87 = .ok (.getfield 125, 3) := by decide +kernel
theorem dX10_seen_90 : decode cX10_seen 90 = .ok (.if_icmp .ge 39, 3) := by decide +kernel
theorem dX10_seen_93 : decode cX10_seen 93 = .ok (.iload_n 3, 1) := by decide +kernel
theorem dX10_seen_94 : decode cX10_seen 94 = .ok (.aload_n 0, 1) := by decide +kernel
theorem dX10_seen_95 : decode cX10_seen 95 = .ok (.getfield 32, 3) := by decide +kernel
theorem dX10_seen_98 : decode cX10_seen 98 = .ok (.iload 4, 2) := by decide +kernel
theorem dX10_seen_100 : decode cX10_seen 100 = .ok (.iaload, 1) := by decide +kernel
theorem dX10_seen_101 : decode cX10_seen 101 = .ok (.iconst 1, 1) := by decide +kernel
theorem dX10_seen_102 : decode cX10_seen 102 = .ok (.if_icmp .ne 18, 3) := by decide +kernel
theorem dX10_seen_105 : decode cX10_seen 105 = .ok (.aload_n 0, 1) := by decide +kernel
theorem dX10_seen_106 : decode cX10_seen 106 = .ok (.getfield 35, 3) := by decide +kernel
theorem dX10_seen_109 : decode cX10_seen 109 = .ok (.iload 4, 2) := by decide +kernel
theorem dX10_seen_111 : decode cX10_seen 111 = .ok (.iaload, 1) := by decide +kernel
theorem dX10_seen_112 : decode cX10_seen 112 = .ok (.iload_n 1, 1) := by decide +kernel
theorem dX10_seen_113 : decode cX10_seen 113 = .ok (.if_icmp .ne 7, 3) := by decide +kernel
theorem dX10_seen_116 : decode cX10_seen 116 = .ok (.iconst 1, 1) := by decide +kernel
theorem dX10_seen_117 : decode cX10_seen 117 = .ok (.goto 4, 3) := by decide +kernel
theorem dX10_seen_120 : decode cX10_seen 120 = .ok (.iconst 0, 1) := by decide +kernel
theorem dX10_seen_121 : decode cX10_seen 121 = .ok (.iadd, 1) := by decide +kernel
theorem dX10_seen_122 : decode cX10_seen 122 = .ok (.istore_n 3, 1) := by decide +kernel
theorem dX10_seen_123 : decode cX10_seen 123 = .ok (.iinc 4 1, 3) := by decide +kernel
theorem dX10_seen_126 : decode cX10_seen 126 = .ok (.goto (-42), 3) := by decide +kernel
theorem dX10_seen_129 : decode cX10_seen 129 = .ok (.iload_n 3, 1) := by decide +kernel
theorem dX10_seen_130 : decode cX10_seen 130 = .ok (.ireturn, 1) := by decide +kernel
theorem dX10_tellsFalse_0 : decode cX10_tellsFalse 0 = .ok (.aload_n 0, 1) := by decide +kernel
theorem dX10_tellsFalse_1 : decode cX10_tellsFalse 1 = .ok (.getfield 66, 3) := by decide +kernel
theorem dX10_tellsFalse_4 : decode cX10_tellsFalse 4 = .ok (.iload_n 1, 1) := by decide +kernel
theorem dX10_tellsFalse_5 : decode cX10_tellsFalse 5 = .ok (.dup2, 1) := by decide +kernel
theorem dX10_tellsFalse_6 : decode cX10_tellsFalse 6 = .ok (.iaload, 1) := by decide +kernel
theorem dX10_tellsFalse_7 : decode cX10_tellsFalse 7 = .ok (.iconst 1, 1) := by decide +kernel
theorem dX10_tellsFalse_8 : decode cX10_tellsFalse 8 = .ok (.iadd, 1) := by decide +kernel
theorem dX10_tellsFalse_9 : decode cX10_tellsFalse 9 = .ok (.iastore, 1) := by decide +kernel
theorem dX10_tellsFalse_10 : decode cX10_tellsFalse 10 = .ok (.aload_n 0, 1) := by decide +kernel
theorem dX10_tellsFalse_11 : decode cX10_tellsFalse 11 = .ok (.getfield 69, 3) := by decide +kernel
theorem dX10_tellsFalse_14 : decode cX10_tellsFalse 14 = .ok (.iload_n 1, 1) := by decide +kernel
theorem dX10_tellsFalse_15 : decode cX10_tellsFalse 15 = .ok (.aload_n 0, 1) := by decide +kernel
theorem dX10_tellsFalse_16 : decode cX10_tellsFalse 16 = .ok (.getfield 66, 3) := by decide +kernel
theorem dX10_tellsFalse_19 : decode cX10_tellsFalse 19 = .ok (.iload_n 1, 1) := by decide +kernel
theorem dX10_tellsFalse_20 : decode cX10_tellsFalse 20 = .ok (.iaload, 1) := by decide +kernel
theorem dX10_tellsFalse_21 : decode cX10_tellsFalse 21 = .ok (.iconst 3, 1) := by decide +kernel
theorem dX10_tellsFalse_22 : decode cX10_tellsFalse 22 = .ok (.if_icmp .lt 7, 3) := by decide +kernel
theorem dX10_tellsFalse_25 : decode cX10_tellsFalse 25 = .ok (.iconst 1, 1) := by decide +kernel
theorem dX10_tellsFalse_26 : decode cX10_tellsFalse 26 = .ok (.goto 4, 3) := by decide +kernel
theorem dX10_tellsFalse_29 : decode cX10_tellsFalse 29 = .ok (.iconst 0, 1) := by decide +kernel
theorem dX10_tellsFalse_30 : decode cX10_tellsFalse 30 = .ok (.bastore, 1) := by decide +kernel
theorem dX10_tellsFalse_31 : decode cX10_tellsFalse 31 = .ok (.return_, 1) := by decide +kernel
theorem dX10_answer_0 : decode cX10_answer 0 = .ok (.aload_n 0, 1) := by decide +kernel
theorem dX10_answer_1 : decode cX10_answer 1 = .ok (.iload_n 1, 1) := by decide +kernel
theorem dX10_answer_2 : decode cX10_answer 2 = .ok (.invokevirtual 156, 3) := by decide +kernel
theorem dX10_answer_5 : decode cX10_answer 5 = .ok (.ifCond .eq 22, 3) := by decide +kernel
theorem dX10_answer_8 : decode cX10_answer 8 = .ok (.aload_n 0, 1) := by decide +kernel
theorem dX10_answer_9 : decode cX10_answer 9 = .ok (.iload_n 2, 1) := by decide +kernel
theorem dX10_answer_10 : decode cX10_answer 10 = .ok (.invokevirtual 150, 3) := by decide +kernel
theorem dX10_answer_13 : decode cX10_answer 13 = .ok (.ifCond .eq 14, 3) := by decide +kernel
theorem dX10_answer_16 : decode cX10_answer 16 = .ok (.iload_n 3, 1) := by decide +kernel
theorem dX10_answer_17 : decode cX10_answer 17 = .ok (.iconst 1, 1) := by decide +kernel
theorem dX10_answer_18 : decode cX10_answer 18 = .ok (.sipush 9999, 3) := by decide +kernel
theorem dX10_answer_21 : decode cX10_answer 21 = .ok (.invokestatic 131, 3) := by decide +kernel
theorem dX10_answer_24 : decode cX10_answer 24 = .ok (.ifCond .ne 9, 3) := by decide +kernel
theorem dX10_answer_27 : decode cX10_answer 27 = .ok (.aload_n 0, 1) := by decide +kernel
theorem dX10_answer_28 : decode cX10_answer 28 = .ok (.iconst 1, 1) := by decide +kernel
theorem dX10_answer_29 : decode cX10_answer 29 = .ok (.invokevirtual 138, 3) := by decide +kernel
theorem dX10_answer_32 : decode cX10_answer 32 = .ok (.ireturn, 1) := by decide +kernel
theorem dX10_answer_33 : decode cX10_answer 33 = .ok (.aload_n 0, 1) := by decide +kernel
theorem dX10_answer_34 : decode cX10_answer 34 = .ok (.iload_n 1, 1) := by decide +kernel
theorem dX10_answer_35 : decode cX10_answer 35 = .ok (.iload_n 2, 1) := by decide +kernel
theorem dX10_answer_36 : decode cX10_answer 36 = .ok (.invokevirtual 159, 3) := by decide +kernel
theorem dX10_answer_39 : decode cX10_answer 39 = .ok (.ifCond .ne 9, 3) := by decide +kernel
theorem dX10_answer_42 : decode cX10_answer 42 = .ok (.aload_n 0, 1) := by decide +kernel
theorem dX10_answer_43 : decode cX10_answer 43 = .ok (.iconst 3, 1) := by decide +kernel
theorem dX10_answer_44 : decode cX10_answer 44 = .ok (.invokevirtual 138, 3) := by decide +kernel
theorem dX10_answer_47 : decode cX10_answer 47 = .ok (.ireturn, 1) := by decide +kernel
theorem dX10_answer_48 : decode cX10_answer 48 = .ok (.iload_n 3, 1) := by decide +kernel
theorem dX10_answer_49 : decode cX10_answer 49 = .ok (.aload_n 0, 1) := by decide +kernel
theorem dX10_answer_50 : decode cX10_answer 50 = .ok (.getfield 29, 3) := by decide +kernel
theorem dX10_answer_53 : decode cX10_answer 53 = .ok (.iload_n 2, 1) := by decide +kernel
theorem dX10_answer_54 : decode cX10_answer 54 = .ok (.iaload, 1) := by decide +kernel
theorem dX10_answer_55 : decode cX10_answer 55 = .ok (.if_icmp .eq 10, 3) := by decide +kernel
theorem dX10_answer_58 : decode cX10_answer 58 = .ok (.aload_n 0, 1) := by decide +kernel
theorem dX10_answer_59 : decode cX10_answer 59 = .ok (.iload_n 1, 1) := by decide +kernel
theorem dX10_answer_60 : decode cX10_answer 60 = .ok (.invokevirtual 170, 3) := by decide +kernel
theorem dX10_answer_63 : decode cX10_answer 63 = .ok (.iconst 0, 1) := by decide +kernel
theorem dX10_answer_64 : decode cX10_answer 64 = .ok (.ireturn, 1) := by decide +kernel
theorem dX10_answer_65 : decode cX10_answer 65 = .ok (.aload_n 0, 1) := by decide +kernel
theorem dX10_answer_66 : decode cX10_answer 66 = .ok (.iload_n 2, 1) := by decide +kernel
theorem dX10_answer_67 : decode cX10_answer 67 = .ok (.iconst 1, 1) := by decide +kernel
theorem dX10_answer_68 : decode cX10_answer 68 = .ok (.invokevirtual 142, 3) := by decide +kernel
theorem dX10_answer_71 : decode cX10_answer 71 = .ok (.aload_n 0, 1) := by decide +kernel
theorem dX10_answer_72 : decode cX10_answer 72 = .ok (.getfield 35, 3) := by decide +kernel
theorem dX10_answer_75 : decode cX10_answer 75 = .ok (.iload_n 2, 1) := by decide +kernel
theorem dX10_answer_76 : decode cX10_answer 76 = .ok (.iload_n 1, 1) := by decide +kernel
theorem dX10_answer_77 : decode cX10_answer 77 = .ok (.iastore, 1) := by decide +kernel
theorem dX10_answer_78 : decode cX10_answer 78 = .ok (.iconst 1, 1) := by decide +kernel
theorem dX10_answer_79 : decode cX10_answer 79 = .ok (.ireturn, 1) := by decide +kernel
theorem dX10_back_0 : decode cX10_back 0 = .ok (.aload_n 0, 1) := by decide +kernel
theorem dX10_back_1 : decode cX10_back 1 = .ok (.iload_n 1, 1) := by decide +kernel
theorem dX10_back_2 : decode cX10_back 2 = .ok (.invokevirtual 150, 3) := by decide +kernel
theorem dX10_back_5 : decode cX10_back 5 = .ok (.ifCond .ne 9, 3) := by decide +kernel
theorem dX10_back_8 : decode cX10_back 8 = .ok (.aload_n 0, 1) := by decide +kernel
theorem dX10_back_9 : decode cX10_back 9 = .ok (.iconst 1, 1) := by decide +kernel
theorem dX10_back_10 : decode cX10_back 10 = .ok (.invokevirtual 138, 3) := by decide +kernel
theorem dX10_back_13 : decode cX10_back 13 = .ok (.ireturn, 1) := by decide +kernel
theorem dX10_back_14 : decode cX10_back 14 = .ok (.aload_n 0, 1) := by decide +kernel
theorem dX10_back_15 : decode cX10_back 15 = .ok (.getfield 32, 3) := by decide +kernel
theorem dX10_back_18 : decode cX10_back 18 = .ok (.iload_n 1, 1) := by decide +kernel
theorem dX10_back_19 : decode cX10_back 19 = .ok (.iaload, 1) := by decide +kernel
theorem dX10_back_20 : decode cX10_back 20 = .ok (.iconst 1, 1) := by decide +kernel
theorem dX10_back_21 : decode cX10_back 21 = .ok (.if_icmp .ne 19, 3) := by decide +kernel
theorem dX10_back_24 : decode cX10_back 24 = .ok (.aload_n 0, 1) := by decide +kernel
theorem dX10_back_25 : decode cX10_back 25 = .ok (.getfield 121, 3) := by decide +kernel
theorem dX10_back_28 : decode cX10_back 28 = .ok (.aload_n 0, 1) := by decide +kernel
theorem dX10_back_29 : decode cX10_back 29 = .ok (.getfield 38, 3) := by decide +kernel
theorem dX10_back_32 : decode cX10_back 32 = .ok (.iload_n 1, 1) := by decide +kernel
theorem dX10_back_33 : decode cX10_back 33 = .ok (.iaload, 1) := by decide +kernel
theorem dX10_back_34 : decode cX10_back 34 = .ok (.isub, 1) := by decide +kernel
theorem dX10_back_35 : decode cX10_back 35 = .ok (.bipush 10, 2) := by decide +kernel
theorem dX10_back_37 : decode cX10_back 37 = .ok (.if_icmp .le 9, 3) := by decide +kernel
theorem dX10_back_40 : decode cX10_back 40 = .ok (.aload_n 0, 1) := by decide +kernel
theorem dX10_back_41 : decode cX10_back 41 = .ok (.iconst 3, 1) := by decide +kernel
theorem dX10_back_42 : decode cX10_back 42 = .ok (.invokevirtual 138, 3) := by decide +kernel
theorem dX10_back_45 : decode cX10_back 45 = .ok (.ireturn, 1) := by decide +kernel
theorem dX10_back_46 : decode cX10_back 46 = .ok (.aload_n 0, 1) := by decide +kernel
theorem dX10_back_47 : decode cX10_back 47 = .ok (.getfield 35, 3) := by decide +kernel
theorem dX10_back_50 : decode cX10_back 50 = .ok (.iload_n 1, 1) := by decide +kernel
theorem dX10_back_51 : decode cX10_back 51 = .ok (.iaload, 1) := by decide +kernel
theorem dX10_back_52 : decode cX10_back 52 = .ok (.istore_n 2, 1) := by decide +kernel
theorem dX10_back_53 : decode cX10_back 53 = .ok (.aload_n 0, 1) := by decide +kernel
theorem dX10_back_54 : decode cX10_back 54 = .ok (.iload_n 1, 1) := by decide +kernel
theorem dX10_back_55 : decode cX10_back 55 = .ok (.iconst 0, 1) := by decide +kernel
theorem dX10_back_56 : decode cX10_back 56 = .ok (.invokevirtual 142, 3) := by decide +kernel
theorem dX10_back_59 : decode cX10_back 59 = .ok (.aload_n 0, 1) := by decide +kernel
theorem dX10_back_60 : decode cX10_back 60 = .ok (.getfield 35, 3) := by decide +kernel
theorem dX10_back_63 : decode cX10_back 63 = .ok (.iload_n 1, 1) := by decide +kernel
theorem dX10_back_64 : decode cX10_back 64 = .ok (.iconst (-1), 1) := by decide +kernel
theorem dX10_back_65 : decode cX10_back 65 = .ok (.iastore, 1) := by decide +kernel
theorem dX10_back_66 : decode cX10_back 66 = .ok (.iload_n 2, 1) := by decide +kernel
theorem dX10_back_67 : decode cX10_back 67 = .ok (.ireturn, 1) := by decide +kernel
theorem dX10_places_0 : decode cX10_places 0 = .ok (.iconst 0, 1) := by decide +kernel
theorem dX10_places_1 : decode cX10_places 1 = .ok (.istore_n 1, 1) := by decide +kernel
theorem dX10_places_2 : decode cX10_places 2 = .ok (.iload_n 0, 1) := by decide +kernel
theorem dX10_places_3 : decode cX10_places 3 = .ok (.istore_n 2, 1) := by decide +kernel
theorem dX10_places_4 : decode cX10_places 4 = .ok (.iload_n 2, 1) := by decide +kernel
theorem dX10_places_5 : decode cX10_places 5 = .ok (.ifCond .le 14, 3) := by decide +kernel
theorem dX10_places_8 : decode cX10_places 8 = .ok (.iinc 1 1, 3) := by decide +kernel
theorem dX10_places_11 : decode cX10_places 11 = .ok (.iload_n 2, 1) := by decide +kernel
theorem dX10_places_12 : decode cX10_places 12 = .ok (.bipush 10, 2) := by decide +kernel
theorem dX10_places_14 : decode cX10_places 14 = .ok (.idiv, 1) := by decide +kernel
theorem dX10_places_15 : decode cX10_places 15 = .ok (.istore_n 2, 1) := by decide +kernel
theorem dX10_places_16 : decode cX10_places 16 = .ok (.goto (-12), 3) := by decide +kernel
theorem dX10_places_19 : decode cX10_places 19 = .ok (.iload_n 1, 1) := by decide +kernel
theorem dX10_places_20 : decode cX10_places 20 = .ok (.ireturn, 1) := by decide +kernel
theorem dX10_digit_0 : decode cX10_digit 0 = .ok (.iload_n 0, 1) := by decide +kernel
theorem dX10_digit_1 : decode cX10_digit 1 = .ok (.istore_n 2, 1) := by decide +kernel
theorem dX10_digit_2 : decode cX10_digit 2 = .ok (.iconst 0, 1) := by decide +kernel
theorem dX10_digit_3 : decode cX10_digit 3 = .ok (.istore_n 3, 1) := by decide +kernel
theorem dX10_digit_4 : decode cX10_digit 4 = .ok (.iload_n 3, 1) := by decide +kernel
theorem dX10_digit_5 : decode cX10_digit 5 = .ok (.iload_n 1, 1) := by decide +kernel
theorem dX10_digit_6 : decode cX10_digit 6 = .ok (.if_icmp .ge 14, 3) := by decide +kernel
theorem dX10_digit_9 : decode cX10_digit 9 = .ok (.iload_n 2, 1) := by decide +kernel
theorem dX10_digit_10 : decode cX10_digit 10 = .ok (.bipush 10, 2) := by decide +kernel
theorem dX10_digit_12 : decode cX10_digit 12 = .ok (.idiv, 1) := by decide +kernel
theorem dX10_digit_13 : decode cX10_digit 13 = .ok (.istore_n 2, 1) := by decide +kernel
theorem dX10_digit_14 : decode cX10_digit 14 = .ok (.iinc 3 1, 3) := by decide +kernel
theorem dX10_digit_17 : decode cX10_digit 17 = .ok (.goto (-13), 3) := by decide +kernel
theorem dX10_digit_20 : decode cX10_digit 20 = .ok (.iload_n 2, 1) := by decide +kernel
theorem dX10_digit_21 : decode cX10_digit 21 = .ok (.bipush 10, 2) := by decide +kernel
theorem dX10_digit_23 : decode cX10_digit 23 = .ok (.irem, 1) := by decide +kernel
theorem dX10_digit_24 : decode cX10_digit 24 = .ok (.ireturn, 1) := by decide +kernel
theorem dX10_address_0 : decode cX10_address 0 = .ok (.iload_n 1, 1) := by decide +kernel
theorem dX10_address_1 : decode cX10_address 1 = .ok (.iconst 1, 1) := by decide +kernel
theorem dX10_address_2 : decode cX10_address 2 = .ok (.ldc 174, 2) := by decide +kernel
theorem dX10_address_4 : decode cX10_address 4 = .ok (.invokestatic 131, 3) := by decide +kernel
theorem dX10_address_7 : decode cX10_address 7 = .ok (.ifCond .eq 18, 3) := by decide +kernel
theorem dX10_address_10 : decode cX10_address 10 = .ok (.iload_n 2, 1) := by decide +kernel
theorem dX10_address_11 : decode cX10_address 11 = .ok (.iconst 0, 1) := by decide +kernel
theorem dX10_address_12 : decode cX10_address 12 = .ok (.sipush 1000, 3) := by decide +kernel
theorem dX10_address_15 : decode cX10_address 15 = .ok (.invokestatic 131, 3) := by decide +kernel
theorem dX10_address_18 : decode cX10_address 18 = .ok (.ifCond .eq 7, 3) := by decide +kernel
theorem dX10_address_21 : decode cX10_address 21 = .ok (.iconst 1, 1) := by decide +kernel
theorem dX10_address_22 : decode cX10_address 22 = .ok (.goto 4, 3) := by decide +kernel
theorem dX10_address_25 : decode cX10_address 25 = .ok (.iconst 0, 1) := by decide +kernel
theorem dX10_address_26 : decode cX10_address 26 = .ok (.istore_n 3, 1) := by decide +kernel
theorem dX10_address_27 : decode cX10_address 27 = .ok (.iconst 0, 1) := by decide +kernel
theorem dX10_address_28 : decode cX10_address 28 = .ok (.istore 4, 2) := by decide +kernel
theorem dX10_address_30 : decode cX10_address 30 = .ok (.iload_n 3, 1) := by decide +kernel
theorem dX10_address_31 : decode cX10_address 31 = .ok (.ifCond .eq 33, 3) := by decide +kernel
theorem dX10_address_34 : decode cX10_address 34 = .ok (.iload 4, 2) := by decide +kernel
theorem dX10_address_36 : decode cX10_address 36 = .ok (.iload_n 1, 1) := by decide +kernel
theorem dX10_address_37 : decode cX10_address 37 = .ok (.invokestatic 175, 3) := by decide +kernel
theorem dX10_address_40 : decode cX10_address 40 = .ok (.if_icmp .ge 24, 3) := by decide +kernel
theorem dX10_address_43 : decode cX10_address 43 = .ok (.iload_n 1, 1) := by decide +kernel
theorem dX10_address_44 : decode cX10_address 44 = .ok (.iload 4, 2) := by decide +kernel
theorem dX10_address_46 : decode cX10_address 46 = .ok (.invokestatic 178, 3) := by decide +kernel
theorem dX10_address_49 : decode cX10_address 49 = .ok (.ifCond .le 7, 3) := by decide +kernel
theorem dX10_address_52 : decode cX10_address 52 = .ok (.iconst 1, 1) := by decide +kernel
theorem dX10_address_53 : decode cX10_address 53 = .ok (.goto 4, 3) := by decide +kernel
theorem dX10_address_56 : decode cX10_address 56 = .ok (.iconst 0, 1) := by decide +kernel
theorem dX10_address_57 : decode cX10_address 57 = .ok (.istore_n 3, 1) := by decide +kernel
theorem dX10_address_58 : decode cX10_address 58 = .ok (.iinc 4 1, 3) := by decide +kernel
theorem dX10_address_61 : decode cX10_address 61 = .ok (.goto (-31), 3) := by decide +kernel
theorem dX10_address_64 : decode cX10_address 64 = .ok (.iload_n 3, 1) := by decide +kernel
theorem dX10_address_65 : decode cX10_address 65 = .ok (.ifCond .ne 9, 3) := by decide +kernel
theorem dX10_address_68 : decode cX10_address 68 = .ok (.aload_n 0, 1) := by decide +kernel
theorem dX10_address_69 : decode cX10_address 69 = .ok (.iconst 1, 1) := by decide +kernel
theorem dX10_address_70 : decode cX10_address 70 = .ok (.invokevirtual 138, 3) := by decide +kernel
theorem dX10_address_73 : decode cX10_address 73 = .ok (.ireturn, 1) := by decide +kernel
theorem dX10_address_74 : decode cX10_address 74 = .ok (.aload_n 0, 1) := by decide +kernel
theorem dX10_address_75 : decode cX10_address 75 = .ok (.getfield 181, 3) := by decide +kernel
theorem dX10_address_78 : decode cX10_address 78 = .ok (.bipush 16, 2) := by decide +kernel
theorem dX10_address_80 : decode cX10_address 80 = .ok (.if_icmp .ne 9, 3) := by decide +kernel
theorem dX10_address_83 : decode cX10_address 83 = .ok (.aload_n 0, 1) := by decide +kernel
theorem dX10_address_84 : decode cX10_address 84 = .ok (.iconst 4, 1) := by decide +kernel
theorem dX10_address_85 : decode cX10_address 85 = .ok (.invokevirtual 138, 3) := by decide +kernel
theorem dX10_address_88 : decode cX10_address 88 = .ok (.ireturn, 1) := by decide +kernel
theorem dX10_address_89 : decode cX10_address 89 = .ok (.aload_n 0, 1) := by decide +kernel
theorem dX10_address_90 : decode cX10_address 90 = .ok (.getfield 75, 3) := by decide +kernel
theorem dX10_address_93 : decode cX10_address 93 = .ok (.aload_n 0, 1) := by decide +kernel
theorem dX10_address_94 : decode cX10_address 94 = .ok (.getfield 181, 3) := by decide +kernel
theorem dX10_address_97 : decode cX10_address 97 = .ok (.iload_n 1, 1) := by decide +kernel
theorem dX10_address_98 : decode cX10_address 98 = .ok (.iastore, 1) := by decide +kernel
theorem dX10_address_99 : decode cX10_address 99 = .ok (.aload_n 0, 1) := by decide +kernel
theorem dX10_address_100 : decode cX10_address 100 = .ok (.getfield 78, 3) := by decide +kernel
theorem dX10_address_103 : decode cX10_address 103 = .ok (.aload_n 0, 1) := by decide +kernel
theorem dX10_address_104 : decode cX10_address 104 = .ok (.getfield 181, 3) := by decide +kernel
theorem dX10_address_107 : decode cX10_address 107 = .ok (.iload_n 2, 1) := by decide +kernel
theorem dX10_address_108 : decode cX10_address 108 = .ok (.iastore, 1) := by decide +kernel
theorem dX10_address_109 : decode cX10_address 109 = .ok (.aload_n 0, 1) := by decide +kernel
theorem dX10_address_110 : decode cX10_address 110 = .ok (.dup, 1) := by decide +kernel
theorem dX10_address_111 : decode cX10_address 111 = .ok (.getfield 181, 3) := by decide +kernel
theorem dX10_address_114 : decode cX10_address 114 = .ok (.iconst 1, 1) := by decide +kernel
theorem dX10_address_115 : decode cX10_address 115 = .ok (.iadd, 1) := by decide +kernel
theorem dX10_address_116 : decode cX10_address 116 = .ok (.putfield 181, 3) := by decide +kernel
theorem dX10_address_119 : decode cX10_address 119 = .ok (.aload_n 0, 1) := by decide +kernel
theorem dX10_address_120 : decode cX10_address 120 = .ok (.getfield 181, 3) := by decide +kernel
theorem dX10_address_123 : decode cX10_address 123 = .ok (.iconst 1, 1) := by decide +kernel
theorem dX10_address_124 : decode cX10_address 124 = .ok (.isub, 1) := by decide +kernel
theorem dX10_address_125 : decode cX10_address 125 = .ok (.ireturn, 1) := by decide +kernel
theorem dX10_isAddress_0 : decode cX10_isAddress 0 = .ok (.iload_n 1, 1) := by decide +kernel
theorem dX10_isAddress_1 : decode cX10_isAddress 1 = .ok (.ifCond .lt 15, 3) := by decide +kernel
theorem dX10_isAddress_4 : decode cX10_isAddress 4 = .ok (.iload_n 1, 1) := by decide +kernel
theorem dX10_isAddress_5 : decode cX10_isAddress 5 = .ok (.aload_n 0, 1) := by decide +kernel
theorem dX10_isAddress_6 : decode cX10_isAddress 6 = .ok (.getfield 181, 3) := by decide +kernel
theorem dX10_isAddress_9 : decode cX10_isAddress 9 = .ok (.if_icmp .ge 7, 3) := by decide +kernel
theorem dX10_isAddress_12 : decode cX10_isAddress 12 = .ok (.iconst 1, 1) := by decide +kernel
theorem dX10_isAddress_13 : decode cX10_isAddress 13 = .ok (.goto 4, 3) := by decide +kernel
theorem dX10_isAddress_16 : decode cX10_isAddress 16 = .ok (.iconst 0, 1) := by decide +kernel
theorem dX10_isAddress_17 : decode cX10_isAddress 17 = .ok (.ireturn, 1) := by decide +kernel
theorem dX10_post_0 : decode cX10_post 0 = .ok (.aload_n 0, 1) := by decide +kernel
theorem dX10_post_1 : decode cX10_post 1 = .ok (.iload_n 1, 1) := by decide +kernel
theorem dX10_post_2 : decode cX10_post 2 = .ok (.invokevirtual 184, 3) := by decide +kernel
theorem dX10_post_5 : decode cX10_post 5 = .ok (.ifCond .eq 14, 3) := by decide +kernel
theorem dX10_post_8 : decode cX10_post 8 = .ok (.iload_n 2, 1) := by decide +kernel
theorem dX10_post_9 : decode cX10_post 9 = .ok (.iconst 0, 1) := by decide +kernel
theorem dX10_post_10 : decode cX10_post 10 = .ok (.sipush 1000, 3) := by decide +kernel
theorem dX10_post_13 : decode cX10_post 13 = .ok (.invokestatic 131, 3) := by decide +kernel
theorem dX10_post_16 : decode cX10_post 16 = .ok (.ifCond .ne 9, 3) := by decide +kernel
theorem dX10_post_19 : decode cX10_post 19 = .ok (.aload_n 0, 1) := by decide +kernel
theorem dX10_post_20 : decode cX10_post 20 = .ok (.iconst 1, 1) := by decide +kernel
theorem dX10_post_21 : decode cX10_post 21 = .ok (.invokevirtual 138, 3) := by decide +kernel
theorem dX10_post_24 : decode cX10_post 24 = .ok (.ireturn, 1) := by decide +kernel
theorem dX10_post_25 : decode cX10_post 25 = .ok (.aload_n 0, 1) := by decide +kernel
theorem dX10_post_26 : decode cX10_post 26 = .ok (.getfield 78, 3) := by decide +kernel
theorem dX10_post_29 : decode cX10_post 29 = .ok (.iload_n 1, 1) := by decide +kernel
theorem dX10_post_30 : decode cX10_post 30 = .ok (.iaload, 1) := by decide +kernel
theorem dX10_post_31 : decode cX10_post 31 = .ok (.istore_n 3, 1) := by decide +kernel
theorem dX10_post_32 : decode cX10_post 32 = .ok (.aload_n 0, 1) := by decide +kernel
theorem dX10_post_33 : decode cX10_post 33 = .ok (.getfield 78, 3) := by decide +kernel
theorem dX10_post_36 : decode cX10_post 36 = .ok (.iload_n 1, 1) := by decide +kernel
theorem dX10_post_37 : decode cX10_post 37 = .ok (.iload_n 2, 1) := by decide +kernel
theorem dX10_post_38 : decode cX10_post 38 = .ok (.iastore, 1) := by decide +kernel
theorem dX10_post_39 : decode cX10_post 39 = .ok (.iload_n 3, 1) := by decide +kernel
theorem dX10_post_40 : decode cX10_post 40 = .ok (.ireturn, 1) := by decide +kernel
theorem dX10_isLabel_0 : decode cX10_isLabel 0 = .ok (.iload_n 1, 1) := by decide +kernel
theorem dX10_isLabel_1 : decode cX10_isLabel 1 = .ok (.bipush 10, 2) := by decide +kernel
theorem dX10_isLabel_3 : decode cX10_isLabel 3 = .ok (.bipush 83, 2) := by decide +kernel
theorem dX10_isLabel_5 : decode cX10_isLabel 5 = .ok (.invokestatic 131, 3) := by decide +kernel
theorem dX10_isLabel_8 : decode cX10_isLabel 8 = .ok (.ifCond .eq 36, 3) := by decide +kernel
theorem dX10_isLabel_11 : decode cX10_isLabel 11 = .ok (.iload_n 1, 1) := by decide +kernel
theorem dX10_isLabel_12 : decode cX10_isLabel 12 = .ok (.bipush 10, 2) := by decide +kernel
theorem dX10_isLabel_14 : decode cX10_isLabel 14 = .ok (.irem, 1) := by decide +kernel
theorem dX10_isLabel_15 : decode cX10_isLabel 15 = .ok (.iconst 4, 1) := by decide +kernel
theorem dX10_isLabel_16 : decode cX10_isLabel 16 = .ok (.if_icmp .ge 28, 3) := by decide +kernel
theorem dX10_isLabel_19 : decode cX10_isLabel 19 = .ok (.iload_n 0, 1) := by decide +kernel
theorem dX10_isLabel_20 : decode cX10_isLabel 20 = .ok (.iconst 0, 1) := by decide +kernel
theorem dX10_isLabel_21 : decode cX10_isLabel 21 = .ok (.ldc 174, 2) := by decide +kernel
theorem dX10_isLabel_23 : decode cX10_isLabel 23 = .ok (.invokestatic 131, 3) := by decide +kernel
theorem dX10_isLabel_26 : decode cX10_isLabel 26 = .ok (.ifCond .eq 18, 3) := by decide +kernel
theorem dX10_isLabel_29 : decode cX10_isLabel 29 = .ok (.iload_n 0, 1) := by decide +kernel
theorem dX10_isLabel_30 : decode cX10_isLabel 30 = .ok (.invokestatic 175, 3) := by decide +kernel
theorem dX10_isLabel_33 : decode cX10_isLabel 33 = .ok (.iload_n 1, 1) := by decide +kernel
theorem dX10_isLabel_34 : decode cX10_isLabel 34 = .ok (.bipush 10, 2) := by decide +kernel
theorem dX10_isLabel_36 : decode cX10_isLabel 36 = .ok (.idiv, 1) := by decide +kernel
theorem dX10_isLabel_37 : decode cX10_isLabel 37 = .ok (.if_icmp .gt 7, 3) := by decide +kernel
theorem dX10_isLabel_40 : decode cX10_isLabel 40 = .ok (.iconst 1, 1) := by decide +kernel
theorem dX10_isLabel_41 : decode cX10_isLabel 41 = .ok (.goto 4, 3) := by decide +kernel
theorem dX10_isLabel_44 : decode cX10_isLabel 44 = .ok (.iconst 0, 1) := by decide +kernel
theorem dX10_isLabel_45 : decode cX10_isLabel 45 = .ok (.ireturn, 1) := by decide +kernel
theorem dX10_liesOn_0 : decode cX10_liesOn 0 = .ok (.iconst 0, 1) := by decide +kernel
theorem dX10_liesOn_1 : decode cX10_liesOn 1 = .ok (.istore 4, 2) := by decide +kernel
theorem dX10_liesOn_3 : decode cX10_liesOn 3 = .ok (.iload 4, 2) := by decide +kernel
theorem dX10_liesOn_5 : decode cX10_liesOn 5 = .ok (.iload_n 2, 1) := by decide +kernel
theorem dX10_liesOn_6 : decode cX10_liesOn 6 = .ok (.if_icmp .ge 37, 3) := by decide +kernel
theorem dX10_liesOn_9 : decode cX10_liesOn 9 = .ok (.iload_n 1, 1) := by decide +kernel
theorem dX10_liesOn_10 : decode cX10_liesOn 10 = .ok (.iload 4, 2) := by decide +kernel
theorem dX10_liesOn_12 : decode cX10_liesOn 12 = .ok (.invokestatic 178, 3) := by decide +kernel
theorem dX10_liesOn_15 : decode cX10_liesOn 15 = .ok (.istore 5, 2) := by decide +kernel
theorem dX10_liesOn_17 : decode cX10_liesOn 17 = .ok (.iload 5, 2) := by decide +kernel
theorem dX10_liesOn_19 : decode cX10_liesOn 19 = .ok (.ifCond .le 18, 3) := by decide +kernel
theorem dX10_liesOn_22 : decode cX10_liesOn 22 = .ok (.iload 5, 2) := by decide +kernel
theorem dX10_liesOn_24 : decode cX10_liesOn 24 = .ok (.iload_n 0, 1) := by decide +kernel
theorem dX10_liesOn_25 : decode cX10_liesOn 25 = .ok (.iload 4, 2) := by decide +kernel
theorem dX10_liesOn_27 : decode cX10_liesOn 27 = .ok (.iload_n 3, 1) := by decide +kernel
theorem dX10_liesOn_28 : decode cX10_liesOn 28 = .ok (.iadd, 1) := by decide +kernel
theorem dX10_liesOn_29 : decode cX10_liesOn 29 = .ok (.invokestatic 178, 3) := by decide +kernel
theorem dX10_liesOn_32 : decode cX10_liesOn 32 = .ok (.if_icmp .eq 5, 3) := by decide +kernel
theorem dX10_liesOn_35 : decode cX10_liesOn 35 = .ok (.iconst 0, 1) := by decide +kernel
theorem dX10_liesOn_36 : decode cX10_liesOn 36 = .ok (.ireturn, 1) := by decide +kernel
theorem dX10_liesOn_37 : decode cX10_liesOn 37 = .ok (.iinc 4 1, 3) := by decide +kernel
theorem dX10_liesOn_40 : decode cX10_liesOn 40 = .ok (.goto (-37), 3) := by decide +kernel
theorem dX10_liesOn_43 : decode cX10_liesOn 43 = .ok (.iconst 1, 1) := by decide +kernel
theorem dX10_liesOn_44 : decode cX10_liesOn 44 = .ok (.ireturn, 1) := by decide +kernel
theorem dX10_isFit_0 : decode cX10_isFit 0 = .ok (.iload_n 3, 1) := by decide +kernel
theorem dX10_isFit_1 : decode cX10_isFit 1 = .ok (.bipush 10, 2) := by decide +kernel
theorem dX10_isFit_3 : decode cX10_isFit 3 = .ok (.idiv, 1) := by decide +kernel
theorem dX10_isFit_4 : decode cX10_isFit 4 = .ok (.istore 4, 2) := by decide +kernel
theorem dX10_isFit_6 : decode cX10_isFit 6 = .ok (.aload_n 0, 1) := by decide +kernel
theorem dX10_isFit_7 : decode cX10_isFit 7 = .ok (.getfield 75, 3) := by decide +kernel
theorem dX10_isFit_10 : decode cX10_isFit 10 = .ok (.iload_n 1, 1) := by decide +kernel
theorem dX10_isFit_11 : decode cX10_isFit 11 = .ok (.iaload, 1) := by decide +kernel
theorem dX10_isFit_12 : decode cX10_isFit 12 = .ok (.invokestatic 175, 3) := by decide +kernel
theorem dX10_isFit_15 : decode cX10_isFit 15 = .ok (.iload 4, 2) := by decide +kernel
theorem dX10_isFit_17 : decode cX10_isFit 17 = .ok (.isub, 1) := by decide +kernel
theorem dX10_isFit_18 : decode cX10_isFit 18 = .ok (.istore 5, 2) := by decide +kernel
theorem dX10_isFit_20 : decode cX10_isFit 20 = .ok (.iconst 0, 1) := by decide +kernel
theorem dX10_isFit_21 : decode cX10_isFit 21 = .ok (.istore 6, 2) := by decide +kernel
theorem dX10_isFit_23 : decode cX10_isFit 23 = .ok (.iconst 0, 1) := by decide +kernel
theorem dX10_isFit_24 : decode cX10_isFit 24 = .ok (.istore 7, 2) := by decide +kernel
theorem dX10_isFit_26 : decode cX10_isFit 26 = .ok (.iload 7, 2) := by decide +kernel
theorem dX10_isFit_28 : decode cX10_isFit 28 = .ok (.iload 5, 2) := by decide +kernel
theorem dX10_isFit_30 : decode cX10_isFit 30 = .ok (.if_icmp .gt 78, 3) := by decide +kernel
theorem dX10_isFit_33 : decode cX10_isFit 33 = .ok (.iload 7, 2) := by decide +kernel
theorem dX10_isFit_35 : decode cX10_isFit 35 = .ok (.ifCond .eq 13, 3) := by decide +kernel
theorem dX10_isFit_38 : decode cX10_isFit 38 = .ok (.iload_n 3, 1) := by decide +kernel
theorem dX10_isFit_39 : decode cX10_isFit 39 = .ok (.bipush 10, 2) := by decide +kernel
theorem dX10_isFit_41 : decode cX10_isFit 41 = .ok (.irem, 1) := by decide +kernel
theorem dX10_isFit_42 : decode cX10_isFit 42 = .ok (.iconst 2, 1) := by decide +kernel
theorem dX10_isFit_43 : decode cX10_isFit 43 = .ok (.irem, 1) := by decide +kernel
theorem dX10_isFit_44 : decode cX10_isFit 44 = .ok (.iconst 1, 1) := by decide +kernel
theorem dX10_isFit_45 : decode cX10_isFit 45 = .ok (.if_icmp .ne 22, 3) := by decide +kernel
theorem dX10_isFit_48 : decode cX10_isFit 48 = .ok (.iload 7, 2) := by decide +kernel
theorem dX10_isFit_50 : decode cX10_isFit 50 = .ok (.iload 5, 2) := by decide +kernel
theorem dX10_isFit_52 : decode cX10_isFit 52 = .ok (.if_icmp .eq 11, 3) := by decide +kernel
theorem dX10_isFit_55 : decode cX10_isFit 55 = .ok (.iload_n 3, 1) := by decide +kernel
theorem dX10_isFit_56 : decode cX10_isFit 56 = .ok (.bipush 10, 2) := by decide +kernel
theorem dX10_isFit_58 : decode cX10_isFit 58 = .ok (.irem, 1) := by decide +kernel
theorem dX10_isFit_59 : decode cX10_isFit 59 = .ok (.iconst 1, 1) := by decide +kernel
theorem dX10_isFit_60 : decode cX10_isFit 60 = .ok (.if_icmp .le 7, 3) := by decide +kernel
theorem dX10_isFit_63 : decode cX10_isFit 63 = .ok (.iconst 1, 1) := by decide +kernel
theorem dX10_isFit_64 : decode cX10_isFit 64 = .ok (.goto 4, 3) := by decide +kernel
theorem dX10_isFit_67 : decode cX10_isFit 67 = .ok (.iconst 0, 1) := by decide +kernel
theorem dX10_isFit_68 : decode cX10_isFit 68 = .ok (.istore 8, 2) := by decide +kernel
theorem dX10_isFit_70 : decode cX10_isFit 70 = .ok (.iload 6, 2) := by decide +kernel
theorem dX10_isFit_72 : decode cX10_isFit 72 = .ok (.iload 8, 2) := by decide +kernel
theorem dX10_isFit_74 : decode cX10_isFit 74 = .ok (.ifCond .eq 24, 3) := by decide +kernel
theorem dX10_isFit_77 : decode cX10_isFit 77 = .ok (.aload_n 0, 1) := by decide +kernel
theorem dX10_isFit_78 : decode cX10_isFit 78 = .ok (.getfield 75, 3) := by decide +kernel
theorem dX10_isFit_81 : decode cX10_isFit 81 = .ok (.iload_n 1, 1) := by decide +kernel
theorem dX10_isFit_82 : decode cX10_isFit 82 = .ok (.iaload, 1) := by decide +kernel
theorem dX10_isFit_83 : decode cX10_isFit 83 = .ok (.iload_n 2, 1) := by decide +kernel
theorem dX10_isFit_84 : decode cX10_isFit 84 = .ok (.iload 4, 2) := by decide +kernel
theorem dX10_isFit_86 : decode cX10_isFit 86 = .ok (.iload 7, 2) := by decide +kernel
theorem dX10_isFit_88 : decode cX10_isFit 88 = .ok (.invokestatic 187, 3) := by decide +kernel
theorem dX10_isFit_91 : decode cX10_isFit 91 = .ok (.ifCond .eq 7, 3) := by decide +kernel
theorem dX10_isFit_94 : decode cX10_isFit 94 = .ok (.iconst 1, 1) := by decide +kernel
theorem dX10_isFit_95 : decode cX10_isFit 95 = .ok (.goto 4, 3) := by decide +kernel
theorem dX10_isFit_98 : decode cX10_isFit 98 = .ok (.iconst 0, 1) := by decide +kernel
theorem dX10_isFit_99 : decode cX10_isFit 99 = .ok (.ior, 1) := by decide +kernel
theorem dX10_isFit_100 : decode cX10_isFit 100 = .ok (.istore 6, 2) := by decide +kernel
theorem dX10_isFit_102 : decode cX10_isFit 102 = .ok (.iinc 7 1, 3) := by decide +kernel
theorem dX10_isFit_105 : decode cX10_isFit 105 = .ok (.goto (-79), 3) := by decide +kernel
theorem dX10_isFit_108 : decode cX10_isFit 108 = .ok (.iload 6, 2) := by decide +kernel
theorem dX10_isFit_110 : decode cX10_isFit 110 = .ok (.ireturn, 1) := by decide +kernel
theorem dX10_fits_0 : decode cX10_fits 0 = .ok (.aload_n 0, 1) := by decide +kernel
theorem dX10_fits_1 : decode cX10_fits 1 = .ok (.iload_n 1, 1) := by decide +kernel
theorem dX10_fits_2 : decode cX10_fits 2 = .ok (.invokevirtual 184, 3) := by decide +kernel
theorem dX10_fits_5 : decode cX10_fits 5 = .ok (.ifCond .eq 11, 3) := by decide +kernel
theorem dX10_fits_8 : decode cX10_fits 8 = .ok (.iload_n 2, 1) := by decide +kernel
theorem dX10_fits_9 : decode cX10_fits 9 = .ok (.iload_n 3, 1) := by decide +kernel
theorem dX10_fits_10 : decode cX10_fits 10 = .ok (.invokestatic 191, 3) := by decide +kernel
theorem dX10_fits_13 : decode cX10_fits 13 = .ok (.ifCond .ne 9, 3) := by decide +kernel
theorem dX10_fits_16 : decode cX10_fits 16 = .ok (.aload_n 0, 1) := by decide +kernel
theorem dX10_fits_17 : decode cX10_fits 17 = .ok (.iconst 1, 1) := by decide +kernel
theorem dX10_fits_18 : decode cX10_fits 18 = .ok (.invokevirtual 138, 3) := by decide +kernel
theorem dX10_fits_21 : decode cX10_fits 21 = .ok (.ireturn, 1) := by decide +kernel
theorem dX10_fits_22 : decode cX10_fits 22 = .ok (.aload_n 0, 1) := by decide +kernel
theorem dX10_fits_23 : decode cX10_fits 23 = .ok (.iload_n 1, 1) := by decide +kernel
theorem dX10_fits_24 : decode cX10_fits 24 = .ok (.iload_n 2, 1) := by decide +kernel
theorem dX10_fits_25 : decode cX10_fits 25 = .ok (.iload_n 3, 1) := by decide +kernel
theorem dX10_fits_26 : decode cX10_fits 26 = .ok (.invokevirtual 195, 3) := by decide +kernel
theorem dX10_fits_29 : decode cX10_fits 29 = .ok (.ifCond .eq 7, 3) := by decide +kernel
theorem dX10_fits_32 : decode cX10_fits 32 = .ok (.iconst 1, 1) := by decide +kernel
theorem dX10_fits_33 : decode cX10_fits 33 = .ok (.goto 4, 3) := by decide +kernel
theorem dX10_fits_36 : decode cX10_fits 36 = .ok (.iconst 0, 1) := by decide +kernel
theorem dX10_fits_37 : decode cX10_fits 37 = .ok (.ireturn, 1) := by decide +kernel
theorem dX10_likely_0 : decode cX10_likely 0 = .ok (.iload_n 1, 1) := by decide +kernel
theorem dX10_likely_1 : decode cX10_likely 1 = .ok (.iload_n 2, 1) := by decide +kernel
theorem dX10_likely_2 : decode cX10_likely 2 = .ok (.invokestatic 191, 3) := by decide +kernel
theorem dX10_likely_5 : decode cX10_likely 5 = .ok (.ifCond .eq 7, 3) := by decide +kernel
theorem dX10_likely_8 : decode cX10_likely 8 = .ok (.iload_n 3, 1) := by decide +kernel
theorem dX10_likely_9 : decode cX10_likely 9 = .ok (.ifCond .ge 9, 3) := by decide +kernel
theorem dX10_likely_12 : decode cX10_likely 12 = .ok (.aload_n 0, 1) := by decide +kernel
theorem dX10_likely_13 : decode cX10_likely 13 = .ok (.iconst 1, 1) := by decide +kernel
theorem dX10_likely_14 : decode cX10_likely 14 = .ok (.invokevirtual 138, 3) := by decide +kernel
theorem dX10_likely_17 : decode cX10_likely 17 = .ok (.ireturn, 1) := by decide +kernel
theorem dX10_likely_18 : decode cX10_likely 18 = .ok (.iconst 0, 1) := by decide +kernel
theorem dX10_likely_19 : decode cX10_likely 19 = .ok (.istore 4, 2) := by decide +kernel
theorem dX10_likely_21 : decode cX10_likely 21 = .ok (.iload 4, 2) := by decide +kernel
theorem dX10_likely_23 : decode cX10_likely 23 = .ok (.aload_n 0, 1) := by decide +kernel
theorem dX10_likely_24 : decode cX10_likely 24 = .ok (.getfield 181, 3) := by decide +kernel
theorem dX10_likely_27 : decode cX10_likely 27 = .ok (.if_icmp .ge 112, 3) := by decide +kernel
theorem dX10_likely_30 : decode cX10_likely 30 = .ok (.iconst 0, 1) := by decide +kernel
theorem dX10_likely_31 : decode cX10_likely 31 = .ok (.istore 5, 2) := by decide +kernel
theorem dX10_likely_33 : decode cX10_likely 33 = .ok (.iconst 0, 1) := by decide +kernel
theorem dX10_likely_34 : decode cX10_likely 34 = .ok (.istore 6, 2) := by decide +kernel
theorem dX10_likely_36 : decode cX10_likely 36 = .ok (.iload 6, 2) := by decide +kernel
theorem dX10_likely_38 : decode cX10_likely 38 = .ok (.aload_n 0, 1) := by decide +kernel
theorem dX10_likely_39 : decode cX10_likely 39 = .ok (.getfield 181, 3) := by decide +kernel
theorem dX10_likely_42 : decode cX10_likely 42 = .ok (.if_icmp .ge 71, 3) := by decide +kernel
theorem dX10_likely_45 : decode cX10_likely 45 = .ok (.iload 5, 2) := by decide +kernel
theorem dX10_likely_47 : decode cX10_likely 47 = .ok (.aload_n 0, 1) := by decide +kernel
theorem dX10_likely_48 : decode cX10_likely 48 = .ok (.iload 6, 2) := by decide +kernel
theorem dX10_likely_50 : decode cX10_likely 50 = .ok (.iload_n 1, 1) := by decide +kernel
theorem dX10_likely_51 : decode cX10_likely 51 = .ok (.iload_n 2, 1) := by decide +kernel
theorem dX10_likely_52 : decode cX10_likely 52 = .ok (.invokevirtual 195, 3) := by decide +kernel
theorem dX10_likely_55 : decode cX10_likely 55 = .ok (.ifCond .eq 48, 3) := by decide +kernel
theorem dX10_likely_58 : decode cX10_likely 58 = .ok (.aload_n 0, 1) := by decide +kernel
theorem dX10_likely_59 : decode cX10_likely 59 = .ok (.getfield 78, 3) := by decide +kernel
theorem dX10_likely_62 : decode cX10_likely 62 = .ok (.iload 6, 2) := by decide +kernel
theorem dX10_likely_64 : decode cX10_likely 64 = .ok (.iaload, 1) := by decide +kernel
theorem dX10_likely_65 : decode cX10_likely 65 = .ok (.aload_n 0, 1) := by decide +kernel
theorem dX10_likely_66 : decode cX10_likely 66 = .ok (.getfield 78, 3) := by decide +kernel
theorem dX10_likely_69 : decode cX10_likely 69 = .ok (.iload 4, 2) := by decide +kernel
theorem dX10_likely_71 : decode cX10_likely 71 = .ok (.iaload, 1) := by decide +kernel
theorem dX10_likely_72 : decode cX10_likely 72 = .ok (.if_icmp .gt 27, 3) := by decide +kernel
theorem dX10_likely_75 : decode cX10_likely 75 = .ok (.aload_n 0, 1) := by decide +kernel
theorem dX10_likely_76 : decode cX10_likely 76 = .ok (.getfield 78, 3) := by decide +kernel
theorem dX10_likely_79 : decode cX10_likely 79 = .ok (.iload 6, 2) := by decide +kernel
theorem dX10_likely_81 : decode cX10_likely 81 = .ok (.iaload, 1) := by decide +kernel
theorem dX10_likely_82 : decode cX10_likely 82 = .ok (.aload_n 0, 1) := by decide +kernel
theorem dX10_likely_83 : decode cX10_likely 83 = .ok (.getfield 78, 3) := by decide +kernel
theorem dX10_likely_86 : decode cX10_likely 86 = .ok (.iload 4, 2) := by decide +kernel
theorem dX10_likely_88 : decode cX10_likely 88 = .ok (.iaload, 1) := by decide +kernel
theorem dX10_likely_89 : decode cX10_likely 89 = .ok (.if_icmp .ne 14, 3) := by decide +kernel
theorem dX10_likely_92 : decode cX10_likely 92 = .ok (.iload 6, 2) := by decide +kernel
theorem dX10_likely_94 : decode cX10_likely 94 = .ok (.iload 4, 2) := by decide +kernel
theorem dX10_likely_96 : decode cX10_likely 96 = .ok (.if_icmp .ge 7, 3) := by decide +kernel
theorem dX10_likely_99 : decode cX10_likely 99 = .ok (.iconst 1, 1) := by decide +kernel
theorem dX10_likely_100 : decode cX10_likely 100 = .ok (.goto 4, 3) := by decide +kernel
theorem dX10_likely_103 : decode cX10_likely 103 = .ok (.iconst 0, 1) := by decide +kernel
theorem dX10_likely_104 : decode cX10_likely 104 = .ok (.iadd, 1) := by decide +kernel
theorem dX10_likely_105 : decode cX10_likely 105 = .ok (.istore 5, 2) := by decide +kernel
theorem dX10_likely_107 : decode cX10_likely 107 = .ok (.iinc 6 1, 3) := by decide +kernel
theorem dX10_likely_110 : decode cX10_likely 110 = .ok (.goto (-74), 3) := by decide +kernel
theorem dX10_likely_113 : decode cX10_likely 113 = .ok (.aload_n 0, 1) := by decide +kernel
theorem dX10_likely_114 : decode cX10_likely 114 = .ok (.iload 4, 2) := by decide +kernel
theorem dX10_likely_116 : decode cX10_likely 116 = .ok (.iload_n 1, 1) := by decide +kernel
theorem dX10_likely_117 : decode cX10_likely 117 = .ok (.iload_n 2, 1) := by decide +kernel
theorem dX10_likely_118 : decode cX10_likely 118 = .ok (.invokevirtual 195, 3) := by decide +kernel
theorem dX10_likely_121 : decode cX10_likely 121 = .ok (.ifCond .eq 12, 3) := by decide +kernel
theorem dX10_likely_124 : decode cX10_likely 124 = .ok (.iload 5, 2) := by decide +kernel
theorem dX10_likely_126 : decode cX10_likely 126 = .ok (.iload_n 3, 1) := by decide +kernel
theorem dX10_likely_127 : decode cX10_likely 127 = .ok (.if_icmp .ne 6, 3) := by decide +kernel
theorem dX10_likely_130 : decode cX10_likely 130 = .ok (.iload 4, 2) := by decide +kernel
theorem dX10_likely_132 : decode cX10_likely 132 = .ok (.ireturn, 1) := by decide +kernel
theorem dX10_likely_133 : decode cX10_likely 133 = .ok (.iinc 4 1, 3) := by decide +kernel
theorem dX10_likely_136 : decode cX10_likely 136 = .ok (.goto (-115), 3) := by decide +kernel
theorem dX10_likely_139 : decode cX10_likely 139 = .ok (.aload_n 0, 1) := by decide +kernel
theorem dX10_likely_140 : decode cX10_likely 140 = .ok (.iconst 2, 1) := by decide +kernel
theorem dX10_likely_141 : decode cX10_likely 141 = .ok (.invokevirtual 138, 3) := by decide +kernel
theorem dX10_likely_144 : decode cX10_likely 144 = .ok (.ireturn, 1) := by decide +kernel
theorem dX10_share_0 : decode cX10_share 0 = .ok (.aload_n 0, 1) := by decide +kernel
theorem dX10_share_1 : decode cX10_share 1 = .ok (.iload_n 1, 1) := by decide +kernel
theorem dX10_share_2 : decode cX10_share 2 = .ok (.invokevirtual 184, 3) := by decide +kernel
theorem dX10_share_5 : decode cX10_share 5 = .ok (.ifCond .eq 11, 3) := by decide +kernel
theorem dX10_share_8 : decode cX10_share 8 = .ok (.iload_n 2, 1) := by decide +kernel
theorem dX10_share_9 : decode cX10_share 9 = .ok (.iload_n 3, 1) := by decide +kernel
theorem dX10_share_10 : decode cX10_share 10 = .ok (.invokestatic 191, 3) := by decide +kernel
theorem dX10_share_13 : decode cX10_share 13 = .ok (.ifCond .ne 9, 3) := by decide +kernel
theorem dX10_share_16 : decode cX10_share 16 = .ok (.aload_n 0, 1) := by decide +kernel
theorem dX10_share_17 : decode cX10_share 17 = .ok (.iconst 1, 1) := by decide +kernel
theorem dX10_share_18 : decode cX10_share 18 = .ok (.invokevirtual 138, 3) := by decide +kernel
theorem dX10_share_21 : decode cX10_share 21 = .ok (.ireturn, 1) := by decide +kernel
theorem dX10_share_22 : decode cX10_share 22 = .ok (.iconst 0, 1) := by decide +kernel
theorem dX10_share_23 : decode cX10_share 23 = .ok (.istore 4, 2) := by decide +kernel
theorem dX10_share_25 : decode cX10_share 25 = .ok (.iconst 0, 1) := by decide +kernel
theorem dX10_share_26 : decode cX10_share 26 = .ok (.istore 5, 2) := by decide +kernel
theorem dX10_share_28 : decode cX10_share 28 = .ok (.iload 5, 2) := by decide +kernel
theorem dX10_share_30 : decode cX10_share 30 = .ok (.aload_n 0, 1) := by decide +kernel
theorem dX10_share_31 : decode cX10_share 31 = .ok (.getfield 181, 3) := by decide +kernel
theorem dX10_share_34 : decode cX10_share 34 = .ok (.if_icmp .ge 36, 3) := by decide +kernel
theorem dX10_share_37 : decode cX10_share 37 = .ok (.iload 4, 2) := by decide +kernel
theorem dX10_share_39 : decode cX10_share 39 = .ok (.aload_n 0, 1) := by decide +kernel
theorem dX10_share_40 : decode cX10_share 40 = .ok (.iload 5, 2) := by decide +kernel
theorem dX10_share_42 : decode cX10_share 42 = .ok (.iload_n 2, 1) := by decide +kernel
theorem dX10_share_43 : decode cX10_share 43 = .ok (.iload_n 3, 1) := by decide +kernel
theorem dX10_share_44 : decode cX10_share 44 = .ok (.invokevirtual 195, 3) := by decide +kernel
theorem dX10_share_47 : decode cX10_share 47 = .ok (.ifCond .eq 13, 3) := by decide +kernel
theorem dX10_share_50 : decode cX10_share 50 = .ok (.aload_n 0, 1) := by decide +kernel
theorem dX10_share_51 : decode cX10_share 51 = .ok (.getfield 78, 3) := by decide +kernel
theorem dX10_share_54 : decode cX10_share 54 = .ok (.iload 5, 2) := by decide +kernel
theorem dX10_share_56 : decode cX10_share 56 = .ok (.iaload, 1) := by decide +kernel
theorem dX10_share_57 : decode cX10_share 57 = .ok (.goto 4, 3) := by decide +kernel
theorem dX10_share_60 : decode cX10_share 60 = .ok (.iconst 0, 1) := by decide +kernel
theorem dX10_share_61 : decode cX10_share 61 = .ok (.iadd, 1) := by decide +kernel
theorem dX10_share_62 : decode cX10_share 62 = .ok (.istore 4, 2) := by decide +kernel
theorem dX10_share_64 : decode cX10_share 64 = .ok (.iinc 5 1, 3) := by decide +kernel
theorem dX10_share_67 : decode cX10_share 67 = .ok (.goto (-39), 3) := by decide +kernel
theorem dX10_share_70 : decode cX10_share 70 = .ok (.aload_n 0, 1) := by decide +kernel
theorem dX10_share_71 : decode cX10_share 71 = .ok (.iload_n 1, 1) := by decide +kernel
theorem dX10_share_72 : decode cX10_share 72 = .ok (.iload_n 2, 1) := by decide +kernel
theorem dX10_share_73 : decode cX10_share 73 = .ok (.iload_n 3, 1) := by decide +kernel
theorem dX10_share_74 : decode cX10_share 74 = .ok (.invokevirtual 195, 3) := by decide +kernel
theorem dX10_share_77 : decode cX10_share 77 = .ok (.ifCond .eq 8, 3) := by decide +kernel
theorem dX10_share_80 : decode cX10_share 80 = .ok (.iload 4, 2) := by decide +kernel
theorem dX10_share_82 : decode cX10_share 82 = .ok (.ifCond .ne 11, 3) := by decide +kernel
theorem dX10_share_85 : decode cX10_share 85 = .ok (.aload_n 0, 1) := by decide +kernel
theorem dX10_share_86 : decode cX10_share 86 = .ok (.iconst 2, 1) := by decide +kernel
theorem dX10_share_87 : decode cX10_share 87 = .ok (.invokevirtual 138, 3) := by decide +kernel
theorem dX10_share_90 : decode cX10_share 90 = .ok (.goto 16, 3) := by decide +kernel
theorem dX10_share_93 : decode cX10_share 93 = .ok (.aload_n 0, 1) := by decide +kernel
theorem dX10_share_94 : decode cX10_share 94 = .ok (.getfield 78, 3) := by decide +kernel
theorem dX10_share_97 : decode cX10_share 97 = .ok (.iload_n 1, 1) := by decide +kernel
theorem dX10_share_98 : decode cX10_share 98 = .ok (.iaload, 1) := by decide +kernel
theorem dX10_share_99 : decode cX10_share 99 = .ok (.sipush 1000, 3) := by decide +kernel
theorem dX10_share_102 : decode cX10_share 102 = .ok (.imul, 1) := by decide +kernel
theorem dX10_share_103 : decode cX10_share 103 = .ok (.iload 4, 2) := by decide +kernel
theorem dX10_share_105 : decode cX10_share 105 = .ok (.idiv, 1) := by decide +kernel
theorem dX10_share_106 : decode cX10_share 106 = .ok (.ireturn, 1) := by decide +kernel
theorem dX10_law_0 : decode cX10_law 0 = .ok (.iload_n 1, 1) := by decide +kernel
theorem dX10_law_1 : decode cX10_law 1 = .ok (.iconst 0, 1) := by decide +kernel
theorem dX10_law_2 : decode cX10_law 2 = .ok (.iconst 3, 1) := by decide +kernel
theorem dX10_law_3 : decode cX10_law 3 = .ok (.invokestatic 131, 3) := by decide +kernel
theorem dX10_law_6 : decode cX10_law 6 = .ok (.ifCond .eq 13, 3) := by decide +kernel
theorem dX10_law_9 : decode cX10_law 9 = .ok (.iload_n 2, 1) := by decide +kernel
theorem dX10_law_10 : decode cX10_law 10 = .ok (.iconst 0, 1) := by decide +kernel
theorem dX10_law_11 : decode cX10_law 11 = .ok (.bipush 60, 2) := by decide +kernel
theorem dX10_law_13 : decode cX10_law 13 = .ok (.invokestatic 131, 3) := by decide +kernel
theorem dX10_law_16 : decode cX10_law 16 = .ok (.ifCond .ne 9, 3) := by decide +kernel
theorem dX10_law_19 : decode cX10_law 19 = .ok (.aload_n 0, 1) := by decide +kernel
theorem dX10_law_20 : decode cX10_law 20 = .ok (.iconst 1, 1) := by decide +kernel
theorem dX10_law_21 : decode cX10_law 21 = .ok (.invokevirtual 138, 3) := by decide +kernel
theorem dX10_law_24 : decode cX10_law 24 = .ok (.ireturn, 1) := by decide +kernel
theorem dX10_law_25 : decode cX10_law 25 = .ok (.aload_n 0, 1) := by decide +kernel
theorem dX10_law_26 : decode cX10_law 26 = .ok (.getfield 81, 3) := by decide +kernel
theorem dX10_law_29 : decode cX10_law 29 = .ok (.iload_n 1, 1) := by decide +kernel
theorem dX10_law_30 : decode cX10_law 30 = .ok (.iaload, 1) := by decide +kernel
theorem dX10_law_31 : decode cX10_law 31 = .ok (.istore_n 3, 1) := by decide +kernel
theorem dX10_law_32 : decode cX10_law 32 = .ok (.aload_n 0, 1) := by decide +kernel
theorem dX10_law_33 : decode cX10_law 33 = .ok (.getfield 81, 3) := by decide +kernel
theorem dX10_law_36 : decode cX10_law 36 = .ok (.iload_n 1, 1) := by decide +kernel
theorem dX10_law_37 : decode cX10_law 37 = .ok (.iload_n 2, 1) := by decide +kernel
theorem dX10_law_38 : decode cX10_law 38 = .ok (.iastore, 1) := by decide +kernel
theorem dX10_law_39 : decode cX10_law 39 = .ok (.iload_n 3, 1) := by decide +kernel
theorem dX10_law_40 : decode cX10_law 40 = .ok (.ireturn, 1) := by decide +kernel
theorem dX10_maySell_0 : decode cX10_maySell 0 = .ok (.aload_n 0, 1) := by decide +kernel
theorem dX10_maySell_1 : decode cX10_maySell 1 = .ok (.getfield 32, 3) := by decide +kernel
theorem dX10_maySell_4 : decode cX10_maySell 4 = .ok (.iload_n 1, 1) := by decide +kernel
theorem dX10_maySell_5 : decode cX10_maySell 5 = .ok (.iaload, 1) := by decide +kernel
theorem dX10_maySell_6 : decode cX10_maySell 6 = .ok (.ifCond .ne 45, 3) := by decide +kernel
theorem dX10_maySell_9 : decode cX10_maySell 9 = .ok (.aload_n 0, 1) := by decide +kernel
theorem dX10_maySell_10 : decode cX10_maySell 10 = .ok (.getfield 13, 3) := by decide +kernel
theorem dX10_maySell_13 : decode cX10_maySell 13 = .ok (.iload_n 1, 1) := by decide +kernel
theorem dX10_maySell_14 : decode cX10_maySell 14 = .ok (.iaload, 1) := by decide +kernel
theorem dX10_maySell_15 : decode cX10_maySell 15 = .ok (.iconst 1, 1) := by decide +kernel
theorem dX10_maySell_16 : decode cX10_maySell 16 = .ok (.if_icmp .eq 35, 3) := by decide +kernel
theorem dX10_maySell_19 : decode cX10_maySell 19 = .ok (.aload_n 0, 1) := by decide +kernel
theorem dX10_maySell_20 : decode cX10_maySell 20 = .ok (.getfield 121, 3) := by decide +kernel
theorem dX10_maySell_23 : decode cX10_maySell 23 = .ok (.aload_n 0, 1) := by decide +kernel
theorem dX10_maySell_24 : decode cX10_maySell 24 = .ok (.getfield 17, 3) := by decide +kernel
theorem dX10_maySell_27 : decode cX10_maySell 27 = .ok (.iload_n 1, 1) := by decide +kernel
theorem dX10_maySell_28 : decode cX10_maySell 28 = .ok (.iaload, 1) := by decide +kernel
theorem dX10_maySell_29 : decode cX10_maySell 29 = .ok (.bipush 30, 2) := by decide +kernel
theorem dX10_maySell_31 : decode cX10_maySell 31 = .ok (.aload_n 0, 1) := by decide +kernel
theorem dX10_maySell_32 : decode cX10_maySell 32 = .ok (.getfield 81, 3) := by decide +kernel
theorem dX10_maySell_35 : decode cX10_maySell 35 = .ok (.aload_n 0, 1) := by decide +kernel
theorem dX10_maySell_36 : decode cX10_maySell 36 = .ok (.getfield 13, 3) := by decide +kernel
theorem dX10_maySell_39 : decode cX10_maySell 39 = .ok (.iload_n 1, 1) := by decide +kernel
theorem dX10_maySell_40 : decode cX10_maySell 40 = .ok (.iaload, 1) := by decide +kernel
theorem dX10_maySell_41 : decode cX10_maySell 41 = .ok (.iaload, 1) := by decide +kernel
theorem dX10_maySell_42 : decode cX10_maySell 42 = .ok (.imul, 1) := by decide +kernel
theorem dX10_maySell_43 : decode cX10_maySell 43 = .ok (.iadd, 1) := by decide +kernel
theorem dX10_maySell_44 : decode cX10_maySell 44 = .ok (.if_icmp .lt 7, 3) := by decide +kernel
theorem dX10_maySell_47 : decode cX10_maySell 47 = .ok (.iconst 1, 1) := by decide +kernel
theorem dX10_maySell_48 : decode cX10_maySell 48 = .ok (.goto 4, 3) := by decide +kernel
theorem dX10_maySell_51 : decode cX10_maySell 51 = .ok (.iconst 0, 1) := by decide +kernel
theorem dX10_maySell_52 : decode cX10_maySell 52 = .ok (.ireturn, 1) := by decide +kernel
theorem dX10_allSellable_0 : decode cX10_allSellable 0 = .ok (.iconst 0, 1) := by decide +kernel
theorem dX10_allSellable_1 : decode cX10_allSellable 1 = .ok (.istore_n 1, 1) := by decide +kernel
theorem dX10_allSellable_2 : decode cX10_allSellable 2 = .ok (.iconst 0, 1) := by decide +kernel
theorem dX10_allSellable_3 : decode cX10_allSellable 3 = .ok (.istore_n 2, 1) := by decide +kernel
theorem dX10_allSellable_4 : decode cX10_allSellable 4 = .ok (.iload_n 2, 1) := by decide +kernel
theorem dX10_allSellable_5 : decode cX10_allSellable 5 = .ok (.aload_n 0, 1) := by decide +kernel
theorem dX10_allSellable_6 : decode cX10_allSellable 6 = .ok (.getfield 125, 3) := by decide +kernel
theorem dX10_allSellable_9 : decode cX10_allSellable 9 = .ok (.if_icmp .ge 27, 3) := by decide +kernel
theorem dX10_allSellable_12 : decode cX10_allSellable 12 = .ok (.iload_n 1, 1) := by decide +kernel
theorem dX10_allSellable_13 : decode cX10_allSellable 13 = .ok (.aload_n 0, 1) := by decide +kernel
theorem dX10_allSellable_14 : decode cX10_allSellable 14 = .ok (.iload_n 2, 1) := by decide +kernel
theorem dX10_allSellable_15 : decode cX10_allSellable 15 = .ok (.invokevirtual 198, 3) := by decide +kernel
theorem dX10_allSellable_18 : decode cX10_allSellable 18 = .ok (.ifCond .eq 9, 3) := by decide +kernel
theorem dX10_allSellable_21 : decode cX10_allSellable 21 = .ok (.iconst 1, 1) := by decide +kernel
theorem dX10_allSellable_22 : decode cX10_allSellable 22 = .ok (.iload_n 2, 1) := by decide +kernel
theorem dX10_allSellable_23 : decode cX10_allSellable 23 = .ok (.ishl, 1) := by decide +kernel
theorem dX10_allSellable_24 : decode cX10_allSellable 24 = .ok (.goto 4, 3) := by decide +kernel
theorem dX10_allSellable_27 : decode cX10_allSellable 27 = .ok (.iconst 0, 1) := by decide +kernel
theorem dX10_allSellable_28 : decode cX10_allSellable 28 = .ok (.ior, 1) := by decide +kernel
theorem dX10_allSellable_29 : decode cX10_allSellable 29 = .ok (.istore_n 1, 1) := by decide +kernel
theorem dX10_allSellable_30 : decode cX10_allSellable 30 = .ok (.iinc 2 1, 3) := by decide +kernel
theorem dX10_allSellable_33 : decode cX10_allSellable 33 = .ok (.goto (-29), 3) := by decide +kernel
theorem dX10_allSellable_36 : decode cX10_allSellable 36 = .ok (.iload_n 1, 1) := by decide +kernel
theorem dX10_allSellable_37 : decode cX10_allSellable 37 = .ok (.ireturn, 1) := by decide +kernel
theorem dX10_sellable_0 : decode cX10_sellable 0 = .ok (.aload_n 0, 1) := by decide +kernel
theorem dX10_sellable_1 : decode cX10_sellable 1 = .ok (.invokevirtual 201, 3) := by decide +kernel
theorem dX10_sellable_4 : decode cX10_sellable 4 = .ok (.ireturn, 1) := by decide +kernel
theorem dX10_ones_0 : decode cX10_ones 0 = .ok (.iconst 0, 1) := by decide +kernel
theorem dX10_ones_1 : decode cX10_ones 1 = .ok (.istore_n 1, 1) := by decide +kernel
theorem dX10_ones_2 : decode cX10_ones 2 = .ok (.iconst 0, 1) := by decide +kernel
theorem dX10_ones_3 : decode cX10_ones 3 = .ok (.istore_n 2, 1) := by decide +kernel
theorem dX10_ones_4 : decode cX10_ones 4 = .ok (.iload_n 2, 1) := by decide +kernel
theorem dX10_ones_5 : decode cX10_ones 5 = .ok (.bipush 20, 2) := by decide +kernel
theorem dX10_ones_7 : decode cX10_ones 7 = .ok (.if_icmp .ge 17, 3) := by decide +kernel
theorem dX10_ones_10 : decode cX10_ones 10 = .ok (.iload_n 1, 1) := by decide +kernel
theorem dX10_ones_11 : decode cX10_ones 11 = .ok (.iload_n 0, 1) := by decide +kernel
theorem dX10_ones_12 : decode cX10_ones 12 = .ok (.iload_n 2, 1) := by decide +kernel
theorem dX10_ones_13 : decode cX10_ones 13 = .ok (.ishr, 1) := by decide +kernel
theorem dX10_ones_14 : decode cX10_ones 14 = .ok (.iconst 1, 1) := by decide +kernel
theorem dX10_ones_15 : decode cX10_ones 15 = .ok (.iand, 1) := by decide +kernel
theorem dX10_ones_16 : decode cX10_ones 16 = .ok (.iadd, 1) := by decide +kernel
theorem dX10_ones_17 : decode cX10_ones 17 = .ok (.istore_n 1, 1) := by decide +kernel
theorem dX10_ones_18 : decode cX10_ones 18 = .ok (.iinc 2 1, 3) := by decide +kernel
theorem dX10_ones_21 : decode cX10_ones 21 = .ok (.goto (-17), 3) := by decide +kernel
theorem dX10_ones_24 : decode cX10_ones 24 = .ok (.iload_n 1, 1) := by decide +kernel
theorem dX10_ones_25 : decode cX10_ones 25 = .ok (.ireturn, 1) := by decide +kernel
theorem dX10_isSet_0 : decode cX10_isSet 0 = .ok (.iload_n 1, 1) := by decide +kernel
theorem dX10_isSet_1 : decode cX10_isSet 1 = .ok (.iconst 0, 1) := by decide +kernel
theorem dX10_isSet_2 : decode cX10_isSet 2 = .ok (.iconst 1, 1) := by decide +kernel
theorem dX10_isSet_3 : decode cX10_isSet 3 = .ok (.aload_n 0, 1) := by decide +kernel
theorem dX10_isSet_4 : decode cX10_isSet 4 = .ok (.getfield 125, 3) := by decide +kernel
theorem dX10_isSet_7 : decode cX10_isSet 7 = .ok (.ishl, 1) := by decide +kernel
theorem dX10_isSet_8 : decode cX10_isSet 8 = .ok (.iconst 1, 1) := by decide +kernel
theorem dX10_isSet_9 : decode cX10_isSet 9 = .ok (.isub, 1) := by decide +kernel
theorem dX10_isSet_10 : decode cX10_isSet 10 = .ok (.invokestatic 131, 3) := by decide +kernel
theorem dX10_isSet_13 : decode cX10_isSet 13 = .ok (.ireturn, 1) := by decide +kernel
theorem dX10_sell_0 : decode cX10_sell 0 = .ok (.aload_n 0, 1) := by decide +kernel
theorem dX10_sell_1 : decode cX10_sell 1 = .ok (.iload_n 1, 1) := by decide +kernel
theorem dX10_sell_2 : decode cX10_sell 2 = .ok (.invokevirtual 204, 3) := by decide +kernel
theorem dX10_sell_5 : decode cX10_sell 5 = .ok (.ifCond .eq 17, 3) := by decide +kernel
theorem dX10_sell_8 : decode cX10_sell 8 = .ok (.iload_n 1, 1) := by decide +kernel
theorem dX10_sell_9 : decode cX10_sell 9 = .ok (.ifCond .eq 13, 3) := by decide +kernel
theorem dX10_sell_12 : decode cX10_sell 12 = .ok (.iload_n 2, 1) := by decide +kernel
theorem dX10_sell_13 : decode cX10_sell 13 = .ok (.iconst 0, 1) := by decide +kernel
theorem dX10_sell_14 : decode cX10_sell 14 = .ok (.ldc 207, 2) := by decide +kernel
theorem dX10_sell_16 : decode cX10_sell 16 = .ok (.invokestatic 131, 3) := by decide +kernel
theorem dX10_sell_19 : decode cX10_sell 19 = .ok (.ifCond .ne 9, 3) := by decide +kernel
theorem dX10_sell_22 : decode cX10_sell 22 = .ok (.aload_n 0, 1) := by decide +kernel
theorem dX10_sell_23 : decode cX10_sell 23 = .ok (.iconst 1, 1) := by decide +kernel
theorem dX10_sell_24 : decode cX10_sell 24 = .ok (.invokevirtual 138, 3) := by decide +kernel
theorem dX10_sell_27 : decode cX10_sell 27 = .ok (.ireturn, 1) := by decide +kernel
theorem dX10_sell_28 : decode cX10_sell 28 = .ok (.iload_n 1, 1) := by decide +kernel
theorem dX10_sell_29 : decode cX10_sell 29 = .ok (.aload_n 0, 1) := by decide +kernel
theorem dX10_sell_30 : decode cX10_sell 30 = .ok (.invokevirtual 201, 3) := by decide +kernel
theorem dX10_sell_33 : decode cX10_sell 33 = .ok (.iconst (-1), 1) := by decide +kernel
theorem dX10_sell_34 : decode cX10_sell 34 = .ok (.ixor, 1) := by decide +kernel
theorem dX10_sell_35 : decode cX10_sell 35 = .ok (.iand, 1) := by decide +kernel
theorem dX10_sell_36 : decode cX10_sell 36 = .ok (.ifCond .eq 9, 3) := by decide +kernel
theorem dX10_sell_39 : decode cX10_sell 39 = .ok (.aload_n 0, 1) := by decide +kernel
theorem dX10_sell_40 : decode cX10_sell 40 = .ok (.iconst 3, 1) := by decide +kernel
theorem dX10_sell_41 : decode cX10_sell 41 = .ok (.invokevirtual 138, 3) := by decide +kernel
theorem dX10_sell_44 : decode cX10_sell 44 = .ok (.ireturn, 1) := by decide +kernel
theorem dX10_sell_45 : decode cX10_sell 45 = .ok (.iconst 0, 1) := by decide +kernel
theorem dX10_sell_46 : decode cX10_sell 46 = .ok (.istore_n 3, 1) := by decide +kernel
theorem dX10_sell_47 : decode cX10_sell 47 = .ok (.iconst 0, 1) := by decide +kernel
theorem dX10_sell_48 : decode cX10_sell 48 = .ok (.istore 4, 2) := by decide +kernel
theorem dX10_sell_50 : decode cX10_sell 50 = .ok (.iload 4, 2) := by decide +kernel
theorem dX10_sell_52 : decode cX10_sell 52 = .ok (.aload_n 0, 1) := by decide +kernel
theorem dX10_sell_53 : decode cX10_sell 53 = .ok (.getfield 125, 3) := by decide +kernel
theorem dX10_sell_56 : decode cX10_sell 56 = .ok (.if_icmp .ge 33, 3) := by decide +kernel
theorem dX10_sell_59 : decode cX10_sell 59 = .ok (.iload_n 3, 1) := by decide +kernel
theorem dX10_sell_60 : decode cX10_sell 60 = .ok (.iload_n 1, 1) := by decide +kernel
theorem dX10_sell_61 : decode cX10_sell 61 = .ok (.iload 4, 2) := by decide +kernel
theorem dX10_sell_63 : decode cX10_sell 63 = .ok (.ishr, 1) := by decide +kernel
theorem dX10_sell_64 : decode cX10_sell 64 = .ok (.iconst 1, 1) := by decide +kernel
theorem dX10_sell_65 : decode cX10_sell 65 = .ok (.iand, 1) := by decide +kernel
theorem dX10_sell_66 : decode cX10_sell 66 = .ok (.iconst 1, 1) := by decide +kernel
theorem dX10_sell_67 : decode cX10_sell 67 = .ok (.if_icmp .ne 13, 3) := by decide +kernel
theorem dX10_sell_70 : decode cX10_sell 70 = .ok (.aload_n 0, 1) := by decide +kernel
theorem dX10_sell_71 : decode cX10_sell 71 = .ok (.getfield 26, 3) := by decide +kernel
theorem dX10_sell_74 : decode cX10_sell 74 = .ok (.iload 4, 2) := by decide +kernel
theorem dX10_sell_76 : decode cX10_sell 76 = .ok (.iaload, 1) := by decide +kernel
theorem dX10_sell_77 : decode cX10_sell 77 = .ok (.goto 4, 3) := by decide +kernel
theorem dX10_sell_80 : decode cX10_sell 80 = .ok (.iconst 0, 1) := by decide +kernel
theorem dX10_sell_81 : decode cX10_sell 81 = .ok (.iadd, 1) := by decide +kernel
theorem dX10_sell_82 : decode cX10_sell 82 = .ok (.istore_n 3, 1) := by decide +kernel
theorem dX10_sell_83 : decode cX10_sell 83 = .ok (.iinc 4 1, 3) := by decide +kernel
theorem dX10_sell_86 : decode cX10_sell 86 = .ok (.goto (-36), 3) := by decide +kernel
theorem dX10_sell_89 : decode cX10_sell 89 = .ok (.iload_n 2, 1) := by decide +kernel
theorem dX10_sell_90 : decode cX10_sell 90 = .ok (.istore 4, 2) := by decide +kernel
theorem dX10_sell_92 : decode cX10_sell 92 = .ok (.iconst 0, 1) := by decide +kernel
theorem dX10_sell_93 : decode cX10_sell 93 = .ok (.istore 5, 2) := by decide +kernel
theorem dX10_sell_95 : decode cX10_sell 95 = .ok (.iload 5, 2) := by decide +kernel
theorem dX10_sell_97 : decode cX10_sell 97 = .ok (.aload_n 0, 1) := by decide +kernel
theorem dX10_sell_98 : decode cX10_sell 98 = .ok (.getfield 125, 3) := by decide +kernel
theorem dX10_sell_101 : decode cX10_sell 101 = .ok (.if_icmp .ge 81, 3) := by decide +kernel
theorem dX10_sell_104 : decode cX10_sell 104 = .ok (.iload_n 1, 1) := by decide +kernel
theorem dX10_sell_105 : decode cX10_sell 105 = .ok (.iload 5, 2) := by decide +kernel
theorem dX10_sell_107 : decode cX10_sell 107 = .ok (.ishr, 1) := by decide +kernel
theorem dX10_sell_108 : decode cX10_sell 108 = .ok (.iconst 1, 1) := by decide +kernel
theorem dX10_sell_109 : decode cX10_sell 109 = .ok (.iand, 1) := by decide +kernel
theorem dX10_sell_110 : decode cX10_sell 110 = .ok (.iconst 1, 1) := by decide +kernel
theorem dX10_sell_111 : decode cX10_sell 111 = .ok (.if_icmp .ne 65, 3) := by decide +kernel
theorem dX10_sell_114 : decode cX10_sell 114 = .ok (.aload_n 0, 1) := by decide +kernel
theorem dX10_sell_115 : decode cX10_sell 115 = .ok (.getfield 41, 3) := by decide +kernel
theorem dX10_sell_118 : decode cX10_sell 118 = .ok (.iload 5, 2) := by decide +kernel
theorem dX10_sell_120 : decode cX10_sell 120 = .ok (.iload_n 3, 1) := by decide +kernel
theorem dX10_sell_121 : decode cX10_sell 121 = .ok (.ifCond .ne 12, 3) := by decide +kernel
theorem dX10_sell_124 : decode cX10_sell 124 = .ok (.iload_n 2, 1) := by decide +kernel
theorem dX10_sell_125 : decode cX10_sell 125 = .ok (.iload_n 1, 1) := by decide +kernel
theorem dX10_sell_126 : decode cX10_sell 126 = .ok (.invokestatic 208, 3) := by decide +kernel
theorem dX10_sell_129 : decode cX10_sell 129 = .ok (.idiv, 1) := by decide +kernel
theorem dX10_sell_130 : decode cX10_sell 130 = .ok (.goto 18, 3) := by decide +kernel
theorem dX10_sell_133 : decode cX10_sell 133 = .ok (.iload_n 2, 1) := by decide +kernel
theorem dX10_sell_134 : decode cX10_sell 134 = .ok (.i2l, 1) := by decide +kernel
theorem dX10_sell_135 : decode cX10_sell 135 = .ok (.aload_n 0, 1) := by decide +kernel
theorem dX10_sell_136 : decode cX10_sell 136 = .ok (.getfield 26, 3) := by decide +kernel
theorem dX10_sell_139 : decode cX10_sell 139 = .ok (.iload 5, 2) := by decide +kernel
theorem dX10_sell_141 : decode cX10_sell 141 = .ok (.iaload, 1) := by decide +kernel
theorem dX10_sell_142 : decode cX10_sell 142 = .ok (.i2l, 1) := by decide +kernel
theorem dX10_sell_143 : decode cX10_sell 143 = .ok (.lmul, 1) := by decide +kernel
theorem dX10_sell_144 : decode cX10_sell 144 = .ok (.iload_n 3, 1) := by decide +kernel
theorem dX10_sell_145 : decode cX10_sell 145 = .ok (.i2l, 1) := by decide +kernel
theorem dX10_sell_146 : decode cX10_sell 146 = .ok (.ldiv, 1) := by decide +kernel
theorem dX10_sell_147 : decode cX10_sell 147 = .ok (.l2i, 1) := by decide +kernel
theorem dX10_sell_148 : decode cX10_sell 148 = .ok (.iastore, 1) := by decide +kernel
theorem dX10_sell_149 : decode cX10_sell 149 = .ok (.iload 4, 2) := by decide +kernel
theorem dX10_sell_151 : decode cX10_sell 151 = .ok (.aload_n 0, 1) := by decide +kernel
theorem dX10_sell_152 : decode cX10_sell 152 = .ok (.getfield 41, 3) := by decide +kernel
theorem dX10_sell_155 : decode cX10_sell 155 = .ok (.iload 5, 2) := by decide +kernel
theorem dX10_sell_157 : decode cX10_sell 157 = .ok (.iaload, 1) := by decide +kernel
theorem dX10_sell_158 : decode cX10_sell 158 = .ok (.isub, 1) := by decide +kernel
theorem dX10_sell_159 : decode cX10_sell 159 = .ok (.istore 4, 2) := by decide +kernel
theorem dX10_sell_161 : decode cX10_sell 161 = .ok (.aload_n 0, 1) := by decide +kernel
theorem dX10_sell_162 : decode cX10_sell 162 = .ok (.getfield 44, 3) := by decide +kernel
theorem dX10_sell_165 : decode cX10_sell 165 = .ok (.iload 5, 2) := by decide +kernel
theorem dX10_sell_167 : decode cX10_sell 167 = .ok (.iconst 0, 1) := by decide +kernel
theorem dX10_sell_168 : decode cX10_sell 168 = .ok (.bastore, 1) := by decide +kernel
theorem dX10_sell_169 : decode cX10_sell 169 = .ok (.aload_n 0, 1) := by decide +kernel
theorem dX10_sell_170 : decode cX10_sell 170 = .ok (.iload 5, 2) := by decide +kernel
theorem dX10_sell_172 : decode cX10_sell 172 = .ok (.iconst 2, 1) := by decide +kernel
theorem dX10_sell_173 : decode cX10_sell 173 = .ok (.invokevirtual 142, 3) := by decide +kernel
theorem dX10_sell_176 : decode cX10_sell 176 = .ok (.iinc 5 1, 3) := by decide +kernel
theorem dX10_sell_179 : decode cX10_sell 179 = .ok (.goto (-84), 3) := by decide +kernel
theorem dX10_sell_182 : decode cX10_sell 182 = .ok (.iload 4, 2) := by decide +kernel
theorem dX10_sell_184 : decode cX10_sell 184 = .ok (.istore 5, 2) := by decide +kernel
theorem dX10_sell_186 : decode cX10_sell 186 = .ok (.iconst 0, 1) := by decide +kernel
theorem dX10_sell_187 : decode cX10_sell 187 = .ok (.istore 6, 2) := by decide +kernel
theorem dX10_sell_189 : decode cX10_sell 189 = .ok (.iload 6, 2) := by decide +kernel
theorem dX10_sell_191 : decode cX10_sell 191 = .ok (.aload_n 0, 1) := by decide +kernel
theorem dX10_sell_192 : decode cX10_sell 192 = .ok (.getfield 125, 3) := by decide +kernel
theorem dX10_sell_195 : decode cX10_sell 195 = .ok (.if_icmp .ge 38, 3) := by decide +kernel
theorem dX10_sell_198 : decode cX10_sell 198 = .ok (.iload 4, 2) := by decide +kernel
theorem dX10_sell_200 : decode cX10_sell 200 = .ok (.ifCond .le 33, 3) := by decide +kernel
theorem dX10_sell_203 : decode cX10_sell 203 = .ok (.iload_n 1, 1) := by decide +kernel
theorem dX10_sell_204 : decode cX10_sell 204 = .ok (.iload 6, 2) := by decide +kernel
theorem dX10_sell_206 : decode cX10_sell 206 = .ok (.ishr, 1) := by decide +kernel
theorem dX10_sell_207 : decode cX10_sell 207 = .ok (.iconst 1, 1) := by decide +kernel
theorem dX10_sell_208 : decode cX10_sell 208 = .ok (.iand, 1) := by decide +kernel
theorem dX10_sell_209 : decode cX10_sell 209 = .ok (.iconst 1, 1) := by decide +kernel
theorem dX10_sell_210 : decode cX10_sell 210 = .ok (.if_icmp .ne 17, 3) := by decide +kernel
theorem dX10_sell_213 : decode cX10_sell 213 = .ok (.aload_n 0, 1) := by decide +kernel
theorem dX10_sell_214 : decode cX10_sell 214 = .ok (.getfield 41, 3) := by decide +kernel
theorem dX10_sell_217 : decode cX10_sell 217 = .ok (.iload 6, 2) := by decide +kernel
theorem dX10_sell_219 : decode cX10_sell 219 = .ok (.dup2, 1) := by decide +kernel
theorem dX10_sell_220 : decode cX10_sell 220 = .ok (.iaload, 1) := by decide +kernel
theorem dX10_sell_221 : decode cX10_sell 221 = .ok (.iconst 1, 1) := by decide +kernel
theorem dX10_sell_222 : decode cX10_sell 222 = .ok (.iadd, 1) := by decide +kernel
theorem dX10_sell_223 : decode cX10_sell 223 = .ok (.iastore, 1) := by decide +kernel
theorem dX10_sell_224 : decode cX10_sell 224 = .ok (.iinc 4 (-1), 3) := by decide +kernel
theorem dX10_sell_227 : decode cX10_sell 227 = .ok (.iinc 6 1, 3) := by decide +kernel
theorem dX10_sell_230 : decode cX10_sell 230 = .ok (.goto (-41), 3) := by decide +kernel
theorem dX10_sell_233 : decode cX10_sell 233 = .ok (.iload 5, 2) := by decide +kernel
theorem dX10_sell_235 : decode cX10_sell 235 = .ok (.ireturn, 1) := by decide +kernel
theorem dX10_sold_0 : decode cX10_sold 0 = .ok (.aload_n 0, 1) := by decide +kernel
theorem dX10_sold_1 : decode cX10_sold 1 = .ok (.iload_n 1, 1) := by decide +kernel
theorem dX10_sold_2 : decode cX10_sold 2 = .ok (.invokevirtual 150, 3) := by decide +kernel
theorem dX10_sold_5 : decode cX10_sold 5 = .ok (.ifCond .ne 9, 3) := by decide +kernel
theorem dX10_sold_8 : decode cX10_sold 8 = .ok (.aload_n 0, 1) := by decide +kernel
theorem dX10_sold_9 : decode cX10_sold 9 = .ok (.iconst 1, 1) := by decide +kernel
theorem dX10_sold_10 : decode cX10_sold 10 = .ok (.invokevirtual 138, 3) := by decide +kernel
theorem dX10_sold_13 : decode cX10_sold 13 = .ok (.ireturn, 1) := by decide +kernel
theorem dX10_sold_14 : decode cX10_sold 14 = .ok (.aload_n 0, 1) := by decide +kernel
theorem dX10_sold_15 : decode cX10_sold 15 = .ok (.getfield 32, 3) := by decide +kernel
theorem dX10_sold_18 : decode cX10_sold 18 = .ok (.iload_n 1, 1) := by decide +kernel
theorem dX10_sold_19 : decode cX10_sold 19 = .ok (.iaload, 1) := by decide +kernel
theorem dX10_sold_20 : decode cX10_sold 20 = .ok (.iconst 2, 1) := by decide +kernel
theorem dX10_sold_21 : decode cX10_sold 21 = .ok (.if_icmp .ne 12, 3) := by decide +kernel
theorem dX10_sold_24 : decode cX10_sold 24 = .ok (.aload_n 0, 1) := by decide +kernel
theorem dX10_sold_25 : decode cX10_sold 25 = .ok (.getfield 41, 3) := by decide +kernel
theorem dX10_sold_28 : decode cX10_sold 28 = .ok (.iload_n 1, 1) := by decide +kernel
theorem dX10_sold_29 : decode cX10_sold 29 = .ok (.iaload, 1) := by decide +kernel
theorem dX10_sold_30 : decode cX10_sold 30 = .ok (.goto 8, 3) := by decide +kernel
theorem dX10_sold_33 : decode cX10_sold 33 = .ok (.aload_n 0, 1) := by decide +kernel
theorem dX10_sold_34 : decode cX10_sold 34 = .ok (.iconst 3, 1) := by decide +kernel
theorem dX10_sold_35 : decode cX10_sold 35 = .ok (.invokevirtual 138, 3) := by decide +kernel
theorem dX10_sold_38 : decode cX10_sold 38 = .ok (.ireturn, 1) := by decide +kernel
theorem dX10_owed_0 : decode cX10_owed 0 = .ok (.aload_n 0, 1) := by decide +kernel
theorem dX10_owed_1 : decode cX10_owed 1 = .ok (.iload_n 1, 1) := by decide +kernel
theorem dX10_owed_2 : decode cX10_owed 2 = .ok (.invokevirtual 156, 3) := by decide +kernel
theorem dX10_owed_5 : decode cX10_owed 5 = .ok (.ifCond .eq 22, 3) := by decide +kernel
theorem dX10_owed_8 : decode cX10_owed 8 = .ok (.aload_n 0, 1) := by decide +kernel
theorem dX10_owed_9 : decode cX10_owed 9 = .ok (.iload_n 2, 1) := by decide +kernel
theorem dX10_owed_10 : decode cX10_owed 10 = .ok (.invokevirtual 150, 3) := by decide +kernel
theorem dX10_owed_13 : decode cX10_owed 13 = .ok (.ifCond .eq 14, 3) := by decide +kernel
theorem dX10_owed_16 : decode cX10_owed 16 = .ok (.iload_n 3, 1) := by decide +kernel
theorem dX10_owed_17 : decode cX10_owed 17 = .ok (.iconst 1, 1) := by decide +kernel
theorem dX10_owed_18 : decode cX10_owed 18 = .ok (.sipush 9999, 3) := by decide +kernel
theorem dX10_owed_21 : decode cX10_owed 21 = .ok (.invokestatic 131, 3) := by decide +kernel
theorem dX10_owed_24 : decode cX10_owed 24 = .ok (.ifCond .ne 9, 3) := by decide +kernel
theorem dX10_owed_27 : decode cX10_owed 27 = .ok (.aload_n 0, 1) := by decide +kernel
theorem dX10_owed_28 : decode cX10_owed 28 = .ok (.iconst 1, 1) := by decide +kernel
theorem dX10_owed_29 : decode cX10_owed 29 = .ok (.invokevirtual 138, 3) := by decide +kernel
theorem dX10_owed_32 : decode cX10_owed 32 = .ok (.ireturn, 1) := by decide +kernel
theorem dX10_owed_33 : decode cX10_owed 33 = .ok (.aload_n 0, 1) := by decide +kernel
theorem dX10_owed_34 : decode cX10_owed 34 = .ok (.getfield 32, 3) := by decide +kernel
theorem dX10_owed_37 : decode cX10_owed 37 = .ok (.iload_n 2, 1) := by decide +kernel
theorem dX10_owed_38 : decode cX10_owed 38 = .ok (.iaload, 1) := by decide +kernel
theorem dX10_owed_39 : decode cX10_owed 39 = .ok (.iconst 2, 1) := by decide +kernel
theorem dX10_owed_40 : decode cX10_owed 40 = .ok (.if_icmp .ne 38, 3) := by decide +kernel
theorem dX10_owed_43 : decode cX10_owed 43 = .ok (.aload_n 0, 1) := by decide +kernel
theorem dX10_owed_44 : decode cX10_owed 44 = .ok (.getfield 44, 3) := by decide +kernel
theorem dX10_owed_47 : decode cX10_owed 47 = .ok (.iload_n 2, 1) := by decide +kernel
theorem dX10_owed_48 : decode cX10_owed 48 = .ok (.baload, 1) := by decide +kernel
theorem dX10_owed_49 : decode cX10_owed 49 = .ok (.ifCond .ne 29, 3) := by decide +kernel
theorem dX10_owed_52 : decode cX10_owed 52 = .ok (.aload_n 0, 1) := by decide +kernel
theorem dX10_owed_53 : decode cX10_owed 53 = .ok (.getfield 121, 3) := by decide +kernel
theorem dX10_owed_56 : decode cX10_owed 56 = .ok (.aload_n 0, 1) := by decide +kernel
theorem dX10_owed_57 : decode cX10_owed 57 = .ok (.getfield 38, 3) := by decide +kernel
theorem dX10_owed_60 : decode cX10_owed 60 = .ok (.iload_n 2, 1) := by decide +kernel
theorem dX10_owed_61 : decode cX10_owed 61 = .ok (.iaload, 1) := by decide +kernel
theorem dX10_owed_62 : decode cX10_owed 62 = .ok (.isub, 1) := by decide +kernel
theorem dX10_owed_63 : decode cX10_owed 63 = .ok (.sipush 1095, 3) := by decide +kernel
theorem dX10_owed_66 : decode cX10_owed 66 = .ok (.if_icmp .gt 12, 3) := by decide +kernel
theorem dX10_owed_69 : decode cX10_owed 69 = .ok (.aload_n 0, 1) := by decide +kernel
theorem dX10_owed_70 : decode cX10_owed 70 = .ok (.getfield 69, 3) := by decide +kernel
theorem dX10_owed_73 : decode cX10_owed 73 = .ok (.iload_n 1, 1) := by decide +kernel
theorem dX10_owed_74 : decode cX10_owed 74 = .ok (.baload, 1) := by decide +kernel
theorem dX10_owed_75 : decode cX10_owed 75 = .ok (.ifCond .eq 9, 3) := by decide +kernel
theorem dX10_owed_78 : decode cX10_owed 78 = .ok (.aload_n 0, 1) := by decide +kernel
theorem dX10_owed_79 : decode cX10_owed 79 = .ok (.iconst 3, 1) := by decide +kernel
theorem dX10_owed_80 : decode cX10_owed 80 = .ok (.invokevirtual 138, 3) := by decide +kernel
theorem dX10_owed_83 : decode cX10_owed 83 = .ok (.ireturn, 1) := by decide +kernel
theorem dX10_owed_84 : decode cX10_owed 84 = .ok (.iload_n 3, 1) := by decide +kernel
theorem dX10_owed_85 : decode cX10_owed 85 = .ok (.aload_n 0, 1) := by decide +kernel
theorem dX10_owed_86 : decode cX10_owed 86 = .ok (.getfield 29, 3) := by decide +kernel
theorem dX10_owed_89 : decode cX10_owed 89 = .ok (.iload_n 2, 1) := by decide +kernel
theorem dX10_owed_90 : decode cX10_owed 90 = .ok (.iaload, 1) := by decide +kernel
theorem dX10_owed_91 : decode cX10_owed 91 = .ok (.if_icmp .eq 14, 3) := by decide +kernel
theorem dX10_owed_94 : decode cX10_owed 94 = .ok (.aload_n 0, 1) := by decide +kernel
theorem dX10_owed_95 : decode cX10_owed 95 = .ok (.iload_n 1, 1) := by decide +kernel
theorem dX10_owed_96 : decode cX10_owed 96 = .ok (.invokevirtual 170, 3) := by decide +kernel
theorem dX10_owed_99 : decode cX10_owed 99 = .ok (.aload_n 0, 1) := by decide +kernel
theorem dX10_owed_100 : decode cX10_owed 100 = .ok (.iconst 2, 1) := by decide +kernel
theorem dX10_owed_101 : decode cX10_owed 101 = .ok (.invokevirtual 138, 3) := by decide +kernel
theorem dX10_owed_104 : decode cX10_owed 104 = .ok (.ireturn, 1) := by decide +kernel
theorem dX10_owed_105 : decode cX10_owed 105 = .ok (.aload_n 0, 1) := by decide +kernel
theorem dX10_owed_106 : decode cX10_owed 106 = .ok (.getfield 44, 3) := by decide +kernel
theorem dX10_owed_109 : decode cX10_owed 109 = .ok (.iload_n 2, 1) := by decide +kernel
theorem dX10_owed_110 : decode cX10_owed 110 = .ok (.iconst 1, 1) := by decide +kernel
theorem dX10_owed_111 : decode cX10_owed 111 = .ok (.bastore, 1) := by decide +kernel
theorem dX10_owed_112 : decode cX10_owed 112 = .ok (.aload_n 0, 1) := by decide +kernel
theorem dX10_owed_113 : decode cX10_owed 113 = .ok (.getfield 41, 3) := by decide +kernel
theorem dX10_owed_116 : decode cX10_owed 116 = .ok (.iload_n 2, 1) := by decide +kernel
theorem dX10_owed_117 : decode cX10_owed 117 = .ok (.iaload, 1) := by decide +kernel
theorem dX10_owed_118 : decode cX10_owed 118 = .ok (.aload_n 0, 1) := by decide +kernel
theorem dX10_owed_119 : decode cX10_owed 119 = .ok (.getfield 41, 3) := by decide +kernel
theorem dX10_owed_122 : decode cX10_owed 122 = .ok (.iload_n 2, 1) := by decide +kernel
theorem dX10_owed_123 : decode cX10_owed 123 = .ok (.iaload, 1) := by decide +kernel
theorem dX10_owed_124 : decode cX10_owed 124 = .ok (.bipush 10, 2) := by decide +kernel
theorem dX10_owed_126 : decode cX10_owed 126 = .ok (.idiv, 1) := by decide +kernel
theorem dX10_owed_127 : decode cX10_owed 127 = .ok (.isub, 1) := by decide +kernel
theorem dX10_owed_128 : decode cX10_owed 128 = .ok (.istore 4, 2) := by decide +kernel
theorem dX10_owed_130 : decode cX10_owed 130 = .ok (.aload_n 0, 1) := by decide +kernel
theorem dX10_owed_131 : decode cX10_owed 131 = .ok (.dup, 1) := by decide +kernel
theorem dX10_owed_132 : decode cX10_owed 132 = .ok (.getfield 211, 3) := by decide +kernel
theorem dX10_owed_135 : decode cX10_owed 135 = .ok (.iload 4, 2) := by decide +kernel
theorem dX10_owed_137 : decode cX10_owed 137 = .ok (.iadd, 1) := by decide +kernel
theorem dX10_owed_138 : decode cX10_owed 138 = .ok (.putfield 211, 3) := by decide +kernel
theorem dX10_owed_141 : decode cX10_owed 141 = .ok (.iload 4, 2) := by decide +kernel
theorem dX10_owed_143 : decode cX10_owed 143 = .ok (.ireturn, 1) := by decide +kernel
theorem dX10_tellLots_0 : decode cX10_tellLots 0 = .ok (.iconst 1, 1) := by decide +kernel
theorem dX10_tellLots_1 : decode cX10_tellLots 1 = .ok (.istore_n 3, 1) := by decide +kernel
theorem dX10_tellLots_2 : decode cX10_tellLots 2 = .ok (.iload_n 3, 1) := by decide +kernel
theorem dX10_tellLots_3 : decode cX10_tellLots 3 = .ok (.iconst 1, 1) := by decide +kernel
theorem dX10_tellLots_4 : decode cX10_tellLots 4 = .ok (.aload_n 0, 1) := by decide +kernel
theorem dX10_tellLots_5 : decode cX10_tellLots 5 = .ok (.getfield 214, 3) := by decide +kernel
theorem dX10_tellLots_8 : decode cX10_tellLots 8 = .ok (.ishl, 1) := by decide +kernel
theorem dX10_tellLots_9 : decode cX10_tellLots 9 = .ok (.if_icmp .ge 74, 3) := by decide +kernel
theorem dX10_tellLots_12 : decode cX10_tellLots 12 = .ok (.iconst 0, 1) := by decide +kernel
theorem dX10_tellLots_13 : decode cX10_tellLots 13 = .ok (.istore 4, 2) := by decide +kernel
theorem dX10_tellLots_15 : decode cX10_tellLots 15 = .ok (.iconst 0, 1) := by decide +kernel
theorem dX10_tellLots_16 : decode cX10_tellLots 16 = .ok (.istore 5, 2) := by decide +kernel
theorem dX10_tellLots_18 : decode cX10_tellLots 18 = .ok (.iload 5, 2) := by decide +kernel
theorem dX10_tellLots_20 : decode cX10_tellLots 20 = .ok (.aload_n 0, 1) := by decide +kernel
theorem dX10_tellLots_21 : decode cX10_tellLots 21 = .ok (.getfield 214, 3) := by decide +kernel
theorem dX10_tellLots_24 : decode cX10_tellLots 24 = .ok (.if_icmp .ge 40, 3) := by decide +kernel
theorem dX10_tellLots_27 : decode cX10_tellLots 27 = .ok (.iload 4, 2) := by decide +kernel
theorem dX10_tellLots_29 : decode cX10_tellLots 29 = .ok (.iload_n 3, 1) := by decide +kernel
theorem dX10_tellLots_30 : decode cX10_tellLots 30 = .ok (.iload 5, 2) := by decide +kernel
theorem dX10_tellLots_32 : decode cX10_tellLots 32 = .ok (.ishr, 1) := by decide +kernel
theorem dX10_tellLots_33 : decode cX10_tellLots 33 = .ok (.iconst 1, 1) := by decide +kernel
theorem dX10_tellLots_34 : decode cX10_tellLots 34 = .ok (.iand, 1) := by decide +kernel
theorem dX10_tellLots_35 : decode cX10_tellLots 35 = .ok (.iconst 1, 1) := by decide +kernel
theorem dX10_tellLots_36 : decode cX10_tellLots 36 = .ok (.if_icmp .ne 18, 3) := by decide +kernel
theorem dX10_tellLots_39 : decode cX10_tellLots 39 = .ok (.aload_n 0, 1) := by decide +kernel
theorem dX10_tellLots_40 : decode cX10_tellLots 40 = .ok (.getfield 26, 3) := by decide +kernel
theorem dX10_tellLots_43 : decode cX10_tellLots 43 = .ok (.aload_n 0, 1) := by decide +kernel
theorem dX10_tellLots_44 : decode cX10_tellLots 44 = .ok (.getfield 108, 3) := by decide +kernel
theorem dX10_tellLots_47 : decode cX10_tellLots 47 = .ok (.iload 5, 2) := by decide +kernel
theorem dX10_tellLots_49 : decode cX10_tellLots 49 = .ok (.iaload, 1) := by decide +kernel
theorem dX10_tellLots_50 : decode cX10_tellLots 50 = .ok (.iaload, 1) := by decide +kernel
theorem dX10_tellLots_51 : decode cX10_tellLots 51 = .ok (.goto 4, 3) := by decide +kernel
theorem dX10_tellLots_54 : decode cX10_tellLots 54 = .ok (.iconst 0, 1) := by decide +kernel
theorem dX10_tellLots_55 : decode cX10_tellLots 55 = .ok (.iadd, 1) := by decide +kernel
theorem dX10_tellLots_56 : decode cX10_tellLots 56 = .ok (.istore 4, 2) := by decide +kernel
theorem dX10_tellLots_58 : decode cX10_tellLots 58 = .ok (.iinc 5 1, 3) := by decide +kernel
theorem dX10_tellLots_61 : decode cX10_tellLots 61 = .ok (.goto (-43), 3) := by decide +kernel
theorem dX10_tellLots_64 : decode cX10_tellLots 64 = .ok (.aload_n 0, 1) := by decide +kernel
theorem dX10_tellLots_65 : decode cX10_tellLots 65 = .ok (.getfield 114, 3) := by decide +kernel
theorem dX10_tellLots_68 : decode cX10_tellLots 68 = .ok (.iload_n 3, 1) := by decide +kernel
theorem dX10_tellLots_69 : decode cX10_tellLots 69 = .ok (.iload 4, 2) := by decide +kernel
theorem dX10_tellLots_71 : decode cX10_tellLots 71 = .ok (.iload_n 1, 1) := by decide +kernel
theorem dX10_tellLots_72 : decode cX10_tellLots 72 = .ok (.iload_n 2, 1) := by decide +kernel
theorem dX10_tellLots_73 : decode cX10_tellLots 73 = .ok (.invokestatic 131, 3) := by decide +kernel
theorem dX10_tellLots_76 : decode cX10_tellLots 76 = .ok (.bastore, 1) := by decide +kernel
theorem dX10_tellLots_77 : decode cX10_tellLots 77 = .ok (.iinc 3 1, 3) := by decide +kernel
theorem dX10_tellLots_80 : decode cX10_tellLots 80 = .ok (.goto (-78), 3) := by decide +kernel
theorem dX10_tellLots_83 : decode cX10_tellLots 83 = .ok (.aload_n 0, 1) := by decide +kernel
theorem dX10_tellLots_84 : decode cX10_tellLots 84 = .ok (.getfield 111, 3) := by decide +kernel
theorem dX10_tellLots_87 : decode cX10_tellLots 87 = .ok (.iconst 0, 1) := by decide +kernel
theorem dX10_tellLots_88 : decode cX10_tellLots 88 = .ok (.iconst 0, 1) := by decide +kernel
theorem dX10_tellLots_89 : decode cX10_tellLots 89 = .ok (.iastore, 1) := by decide +kernel
theorem dX10_tellLots_90 : decode cX10_tellLots 90 = .ok (.iconst 1, 1) := by decide +kernel
theorem dX10_tellLots_91 : decode cX10_tellLots 91 = .ok (.istore_n 3, 1) := by decide +kernel
theorem dX10_tellLots_92 : decode cX10_tellLots 92 = .ok (.iload_n 3, 1) := by decide +kernel
theorem dX10_tellLots_93 : decode cX10_tellLots 93 = .ok (.iconst 1, 1) := by decide +kernel
theorem dX10_tellLots_94 : decode cX10_tellLots 94 = .ok (.aload_n 0, 1) := by decide +kernel
theorem dX10_tellLots_95 : decode cX10_tellLots 95 = .ok (.getfield 214, 3) := by decide +kernel
theorem dX10_tellLots_98 : decode cX10_tellLots 98 = .ok (.ishl, 1) := by decide +kernel
theorem dX10_tellLots_99 : decode cX10_tellLots 99 = .ok (.if_icmp .ge 104, 3) := by decide +kernel
theorem dX10_tellLots_102 : decode cX10_tellLots 102 = .ok (.iload_n 3, 1) := by decide +kernel
theorem dX10_tellLots_103 : decode cX10_tellLots 103 = .ok (.iload_n 3, 1) := by decide +kernel
theorem dX10_tellLots_104 : decode cX10_tellLots 104 = .ok (.ineg, 1) := by decide +kernel
theorem dX10_tellLots_105 : decode cX10_tellLots 105 = .ok (.iand, 1) := by decide +kernel
theorem dX10_tellLots_106 : decode cX10_tellLots 106 = .ok (.istore 4, 2) := by decide +kernel
theorem dX10_tellLots_108 : decode cX10_tellLots 108 = .ok (.aload_n 0, 1) := by decide +kernel
theorem dX10_tellLots_109 : decode cX10_tellLots 109 = .ok (.getfield 111, 3) := by decide +kernel
theorem dX10_tellLots_112 : decode cX10_tellLots 112 = .ok (.iload_n 3, 1) := by decide +kernel
theorem dX10_tellLots_113 : decode cX10_tellLots 113 = .ok (.sipush 1000, 3) := by decide +kernel
theorem dX10_tellLots_116 : decode cX10_tellLots 116 = .ok (.iastore, 1) := by decide +kernel
theorem dX10_tellLots_117 : decode cX10_tellLots 117 = .ok (.iload 4, 2) := by decide +kernel
theorem dX10_tellLots_119 : decode cX10_tellLots 119 = .ok (.istore 5, 2) := by decide +kernel
theorem dX10_tellLots_121 : decode cX10_tellLots 121 = .ok (.iload 5, 2) := by decide +kernel
theorem dX10_tellLots_123 : decode cX10_tellLots 123 = .ok (.iload_n 3, 1) := by decide +kernel
theorem dX10_tellLots_124 : decode cX10_tellLots 124 = .ok (.if_icmp .gt 73, 3) := by decide +kernel
theorem dX10_tellLots_127 : decode cX10_tellLots 127 = .ok (.iload 5, 2) := by decide +kernel
theorem dX10_tellLots_129 : decode cX10_tellLots 129 = .ok (.iload_n 3, 1) := by decide +kernel
theorem dX10_tellLots_130 : decode cX10_tellLots 130 = .ok (.iconst (-1), 1) := by decide +kernel
theorem dX10_tellLots_131 : decode cX10_tellLots 131 = .ok (.ixor, 1) := by decide +kernel
theorem dX10_tellLots_132 : decode cX10_tellLots 132 = .ok (.iand, 1) := by decide +kernel
theorem dX10_tellLots_133 : decode cX10_tellLots 133 = .ok (.ifCond .ne 58, 3) := by decide +kernel
theorem dX10_tellLots_136 : decode cX10_tellLots 136 = .ok (.iload 5, 2) := by decide +kernel
theorem dX10_tellLots_138 : decode cX10_tellLots 138 = .ok (.iload 4, 2) := by decide +kernel
theorem dX10_tellLots_140 : decode cX10_tellLots 140 = .ok (.iand, 1) := by decide +kernel
theorem dX10_tellLots_141 : decode cX10_tellLots 141 = .ok (.ifCond .eq 50, 3) := by decide +kernel
theorem dX10_tellLots_144 : decode cX10_tellLots 144 = .ok (.aload_n 0, 1) := by decide +kernel
theorem dX10_tellLots_145 : decode cX10_tellLots 145 = .ok (.getfield 114, 3) := by decide +kernel
theorem dX10_tellLots_148 : decode cX10_tellLots 148 = .ok (.iload 5, 2) := by decide +kernel
theorem dX10_tellLots_150 : decode cX10_tellLots 150 = .ok (.baload, 1) := by decide +kernel
theorem dX10_tellLots_151 : decode cX10_tellLots 151 = .ok (.ifCond .eq 40, 3) := by decide +kernel
theorem dX10_tellLots_154 : decode cX10_tellLots 154 = .ok (.iconst 1, 1) := by decide +kernel
theorem dX10_tellLots_155 : decode cX10_tellLots 155 = .ok (.aload_n 0, 1) := by decide +kernel
theorem dX10_tellLots_156 : decode cX10_tellLots 156 = .ok (.getfield 111, 3) := by decide +kernel
theorem dX10_tellLots_159 : decode cX10_tellLots 159 = .ok (.iload_n 3, 1) := by decide +kernel
theorem dX10_tellLots_160 : decode cX10_tellLots 160 = .ok (.iload 5, 2) := by decide +kernel
theorem dX10_tellLots_162 : decode cX10_tellLots 162 = .ok (.ixor, 1) := by decide +kernel
theorem dX10_tellLots_163 : decode cX10_tellLots 163 = .ok (.iaload, 1) := by decide +kernel
theorem dX10_tellLots_164 : decode cX10_tellLots 164 = .ok (.iadd, 1) := by decide +kernel
theorem dX10_tellLots_165 : decode cX10_tellLots 165 = .ok (.aload_n 0, 1) := by decide +kernel
theorem dX10_tellLots_166 : decode cX10_tellLots 166 = .ok (.getfield 111, 3) := by decide +kernel
theorem dX10_tellLots_169 : decode cX10_tellLots 169 = .ok (.iload_n 3, 1) := by decide +kernel
theorem dX10_tellLots_170 : decode cX10_tellLots 170 = .ok (.iaload, 1) := by decide +kernel
theorem dX10_tellLots_171 : decode cX10_tellLots 171 = .ok (.if_icmp .ge 20, 3) := by decide +kernel
theorem dX10_tellLots_174 : decode cX10_tellLots 174 = .ok (.aload_n 0, 1) := by decide +kernel
theorem dX10_tellLots_175 : decode cX10_tellLots 175 = .ok (.getfield 111, 3) := by decide +kernel
theorem dX10_tellLots_178 : decode cX10_tellLots 178 = .ok (.iload_n 3, 1) := by decide +kernel
theorem dX10_tellLots_179 : decode cX10_tellLots 179 = .ok (.iconst 1, 1) := by decide +kernel
theorem dX10_tellLots_180 : decode cX10_tellLots 180 = .ok (.aload_n 0, 1) := by decide +kernel
theorem dX10_tellLots_181 : decode cX10_tellLots 181 = .ok (.getfield 111, 3) := by decide +kernel
theorem dX10_tellLots_184 : decode cX10_tellLots 184 = .ok (.iload_n 3, 1) := by decide +kernel
theorem dX10_tellLots_185 : decode cX10_tellLots 185 = .ok (.iload 5, 2) := by decide +kernel
theorem dX10_tellLots_187 : decode cX10_tellLots 187 = .ok (.ixor, 1) := by decide +kernel
theorem dX10_tellLots_188 : decode cX10_tellLots 188 = .ok (.iaload, 1) := by decide +kernel
theorem dX10_tellLots_189 : decode cX10_tellLots 189 = .ok (.iadd, 1) := by decide +kernel
theorem dX10_tellLots_190 : decode cX10_tellLots 190 = .ok (.iastore, 1) := by decide +kernel
theorem dX10_tellLots_191 : decode cX10_tellLots 191 = .ok (.iinc 5 1, 3) := by decide +kernel
theorem dX10_tellLots_194 : decode cX10_tellLots 194 = .ok (.goto (-73), 3) := by decide +kernel
theorem dX10_tellLots_197 : decode cX10_tellLots 197 = .ok (.iinc 3 1, 3) := by decide +kernel
theorem dX10_tellLots_200 : decode cX10_tellLots 200 = .ok (.goto (-108), 3) := by decide +kernel
theorem dX10_tellLots_203 : decode cX10_tellLots 203 = .ok (.return_, 1) := by decide +kernel
theorem dX10_firstLot_0 : decode cX10_firstLot 0 = .ok (.iload_n 1, 1) := by decide +kernel
theorem dX10_firstLot_1 : decode cX10_firstLot 1 = .ok (.iload_n 1, 1) := by decide +kernel
theorem dX10_firstLot_2 : decode cX10_firstLot 2 = .ok (.ineg, 1) := by decide +kernel
theorem dX10_firstLot_3 : decode cX10_firstLot 3 = .ok (.iand, 1) := by decide +kernel
theorem dX10_firstLot_4 : decode cX10_firstLot 4 = .ok (.istore_n 2, 1) := by decide +kernel
theorem dX10_firstLot_5 : decode cX10_firstLot 5 = .ok (.iload_n 2, 1) := by decide +kernel
theorem dX10_firstLot_6 : decode cX10_firstLot 6 = .ok (.istore_n 3, 1) := by decide +kernel
theorem dX10_firstLot_7 : decode cX10_firstLot 7 = .ok (.iload_n 3, 1) := by decide +kernel
theorem dX10_firstLot_8 : decode cX10_firstLot 8 = .ok (.iload_n 1, 1) := by decide +kernel
theorem dX10_firstLot_9 : decode cX10_firstLot 9 = .ok (.iconst (-1), 1) := by decide +kernel
theorem dX10_firstLot_10 : decode cX10_firstLot 10 = .ok (.ixor, 1) := by decide +kernel
theorem dX10_firstLot_11 : decode cX10_firstLot 11 = .ok (.iand, 1) := by decide +kernel
theorem dX10_firstLot_12 : decode cX10_firstLot 12 = .ok (.ifCond .ne 37, 3) := by decide +kernel
theorem dX10_firstLot_15 : decode cX10_firstLot 15 = .ok (.iload_n 3, 1) := by decide +kernel
theorem dX10_firstLot_16 : decode cX10_firstLot 16 = .ok (.iload_n 2, 1) := by decide +kernel
theorem dX10_firstLot_17 : decode cX10_firstLot 17 = .ok (.iand, 1) := by decide +kernel
theorem dX10_firstLot_18 : decode cX10_firstLot 18 = .ok (.ifCond .eq 31, 3) := by decide +kernel
theorem dX10_firstLot_21 : decode cX10_firstLot 21 = .ok (.aload_n 0, 1) := by decide +kernel
theorem dX10_firstLot_22 : decode cX10_firstLot 22 = .ok (.getfield 114, 3) := by decide +kernel
theorem dX10_firstLot_25 : decode cX10_firstLot 25 = .ok (.iload_n 3, 1) := by decide +kernel
theorem dX10_firstLot_26 : decode cX10_firstLot 26 = .ok (.baload, 1) := by decide +kernel
theorem dX10_firstLot_27 : decode cX10_firstLot 27 = .ok (.ifCond .eq 22, 3) := by decide +kernel
theorem dX10_firstLot_30 : decode cX10_firstLot 30 = .ok (.iconst 1, 1) := by decide +kernel
theorem dX10_firstLot_31 : decode cX10_firstLot 31 = .ok (.aload_n 0, 1) := by decide +kernel
theorem dX10_firstLot_32 : decode cX10_firstLot 32 = .ok (.getfield 111, 3) := by decide +kernel
theorem dX10_firstLot_35 : decode cX10_firstLot 35 = .ok (.iload_n 1, 1) := by decide +kernel
theorem dX10_firstLot_36 : decode cX10_firstLot 36 = .ok (.iload_n 3, 1) := by decide +kernel
theorem dX10_firstLot_37 : decode cX10_firstLot 37 = .ok (.ixor, 1) := by decide +kernel
theorem dX10_firstLot_38 : decode cX10_firstLot 38 = .ok (.iaload, 1) := by decide +kernel
theorem dX10_firstLot_39 : decode cX10_firstLot 39 = .ok (.iadd, 1) := by decide +kernel
theorem dX10_firstLot_40 : decode cX10_firstLot 40 = .ok (.aload_n 0, 1) := by decide +kernel
theorem dX10_firstLot_41 : decode cX10_firstLot 41 = .ok (.getfield 111, 3) := by decide +kernel
theorem dX10_firstLot_44 : decode cX10_firstLot 44 = .ok (.iload_n 1, 1) := by decide +kernel
theorem dX10_firstLot_45 : decode cX10_firstLot 45 = .ok (.iaload, 1) := by decide +kernel
theorem dX10_firstLot_46 : decode cX10_firstLot 46 = .ok (.if_icmp .eq 9, 3) := by decide +kernel
theorem dX10_firstLot_49 : decode cX10_firstLot 49 = .ok (.iinc 3 1, 3) := by decide +kernel
theorem dX10_firstLot_52 : decode cX10_firstLot 52 = .ok (.goto (-45), 3) := by decide +kernel
theorem dX10_firstLot_55 : decode cX10_firstLot 55 = .ok (.iload_n 3, 1) := by decide +kernel
theorem dX10_firstLot_56 : decode cX10_firstLot 56 = .ok (.ireturn, 1) := by decide +kernel
theorem dX10_lots_0 : decode cX10_lots 0 = .ok (.aload_n 0, 1) := by decide +kernel
theorem dX10_lots_1 : decode cX10_lots 1 = .ok (.iload_n 1, 1) := by decide +kernel
theorem dX10_lots_2 : decode cX10_lots 2 = .ok (.invokevirtual 204, 3) := by decide +kernel
theorem dX10_lots_5 : decode cX10_lots 5 = .ok (.ifCond .eq 28, 3) := by decide +kernel
theorem dX10_lots_8 : decode cX10_lots 8 = .ok (.iload_n 2, 1) := by decide +kernel
theorem dX10_lots_9 : decode cX10_lots 9 = .ok (.iconst 0, 1) := by decide +kernel
theorem dX10_lots_10 : decode cX10_lots 10 = .ok (.ldc 207, 2) := by decide +kernel
theorem dX10_lots_12 : decode cX10_lots 12 = .ok (.invokestatic 131, 3) := by decide +kernel
theorem dX10_lots_15 : decode cX10_lots 15 = .ok (.ifCond .eq 18, 3) := by decide +kernel
theorem dX10_lots_18 : decode cX10_lots 18 = .ok (.iload_n 3, 1) := by decide +kernel
theorem dX10_lots_19 : decode cX10_lots 19 = .ok (.iload_n 2, 1) := by decide +kernel
theorem dX10_lots_20 : decode cX10_lots 20 = .ok (.ldc 207, 2) := by decide +kernel
theorem dX10_lots_22 : decode cX10_lots 22 = .ok (.invokestatic 131, 3) := by decide +kernel
theorem dX10_lots_25 : decode cX10_lots 25 = .ok (.ifCond .eq 8, 3) := by decide +kernel
theorem dX10_lots_28 : decode cX10_lots 28 = .ok (.iload 4, 2) := by decide +kernel
theorem dX10_lots_30 : decode cX10_lots 30 = .ok (.ifCond .ge 9, 3) := by decide +kernel
theorem dX10_lots_33 : decode cX10_lots 33 = .ok (.aload_n 0, 1) := by decide +kernel
theorem dX10_lots_34 : decode cX10_lots 34 = .ok (.iconst 1, 1) := by decide +kernel
theorem dX10_lots_35 : decode cX10_lots 35 = .ok (.invokevirtual 138, 3) := by decide +kernel
theorem dX10_lots_38 : decode cX10_lots 38 = .ok (.ireturn, 1) := by decide +kernel
theorem dX10_lots_39 : decode cX10_lots 39 = .ok (.iload_n 1, 1) := by decide +kernel
theorem dX10_lots_40 : decode cX10_lots 40 = .ok (.ifCond .eq 23, 3) := by decide +kernel
theorem dX10_lots_43 : decode cX10_lots 43 = .ok (.iload_n 1, 1) := by decide +kernel
theorem dX10_lots_44 : decode cX10_lots 44 = .ok (.invokestatic 208, 3) := by decide +kernel
theorem dX10_lots_47 : decode cX10_lots 47 = .ok (.bipush 10, 2) := by decide +kernel
theorem dX10_lots_49 : decode cX10_lots 49 = .ok (.if_icmp .gt 14, 3) := by decide +kernel
theorem dX10_lots_52 : decode cX10_lots 52 = .ok (.iload_n 1, 1) := by decide +kernel
theorem dX10_lots_53 : decode cX10_lots 53 = .ok (.aload_n 0, 1) := by decide +kernel
theorem dX10_lots_54 : decode cX10_lots 54 = .ok (.invokevirtual 201, 3) := by decide +kernel
theorem dX10_lots_57 : decode cX10_lots 57 = .ok (.iconst (-1), 1) := by decide +kernel
theorem dX10_lots_58 : decode cX10_lots 58 = .ok (.ixor, 1) := by decide +kernel
theorem dX10_lots_59 : decode cX10_lots 59 = .ok (.iand, 1) := by decide +kernel
theorem dX10_lots_60 : decode cX10_lots 60 = .ok (.ifCond .eq 9, 3) := by decide +kernel
theorem dX10_lots_63 : decode cX10_lots 63 = .ok (.aload_n 0, 1) := by decide +kernel
theorem dX10_lots_64 : decode cX10_lots 64 = .ok (.iconst 3, 1) := by decide +kernel
theorem dX10_lots_65 : decode cX10_lots 65 = .ok (.invokevirtual 138, 3) := by decide +kernel
theorem dX10_lots_68 : decode cX10_lots 68 = .ok (.ireturn, 1) := by decide +kernel
theorem dX10_lots_69 : decode cX10_lots 69 = .ok (.aload_n 0, 1) := by decide +kernel
theorem dX10_lots_70 : decode cX10_lots 70 = .ok (.iconst 0, 1) := by decide +kernel
theorem dX10_lots_71 : decode cX10_lots 71 = .ok (.putfield 214, 3) := by decide +kernel
theorem dX10_lots_74 : decode cX10_lots 74 = .ok (.iconst 0, 1) := by decide +kernel
theorem dX10_lots_75 : decode cX10_lots 75 = .ok (.istore 5, 2) := by decide +kernel
theorem dX10_lots_77 : decode cX10_lots 77 = .ok (.iload 5, 2) := by decide +kernel
theorem dX10_lots_79 : decode cX10_lots 79 = .ok (.aload_n 0, 1) := by decide +kernel
theorem dX10_lots_80 : decode cX10_lots 80 = .ok (.getfield 125, 3) := by decide +kernel
theorem dX10_lots_83 : decode cX10_lots 83 = .ok (.if_icmp .ge 40, 3) := by decide +kernel
theorem dX10_lots_86 : decode cX10_lots 86 = .ok (.iload_n 1, 1) := by decide +kernel
theorem dX10_lots_87 : decode cX10_lots 87 = .ok (.iload 5, 2) := by decide +kernel
theorem dX10_lots_89 : decode cX10_lots 89 = .ok (.ishr, 1) := by decide +kernel
theorem dX10_lots_90 : decode cX10_lots 90 = .ok (.iconst 1, 1) := by decide +kernel
theorem dX10_lots_91 : decode cX10_lots 91 = .ok (.iand, 1) := by decide +kernel
theorem dX10_lots_92 : decode cX10_lots 92 = .ok (.iconst 1, 1) := by decide +kernel
theorem dX10_lots_93 : decode cX10_lots 93 = .ok (.if_icmp .ne 24, 3) := by decide +kernel
theorem dX10_lots_96 : decode cX10_lots 96 = .ok (.aload_n 0, 1) := by decide +kernel
theorem dX10_lots_97 : decode cX10_lots 97 = .ok (.getfield 108, 3) := by decide +kernel
theorem dX10_lots_100 : decode cX10_lots 100 = .ok (.aload_n 0, 1) := by decide +kernel
theorem dX10_lots_101 : decode cX10_lots 101 = .ok (.getfield 214, 3) := by decide +kernel
theorem dX10_lots_104 : decode cX10_lots 104 = .ok (.iload 5, 2) := by decide +kernel
theorem dX10_lots_106 : decode cX10_lots 106 = .ok (.iastore, 1) := by decide +kernel
theorem dX10_lots_107 : decode cX10_lots 107 = .ok (.aload_n 0, 1) := by decide +kernel
theorem dX10_lots_108 : decode cX10_lots 108 = .ok (.dup, 1) := by decide +kernel
theorem dX10_lots_109 : decode cX10_lots 109 = .ok (.getfield 214, 3) := by decide +kernel
theorem dX10_lots_112 : decode cX10_lots 112 = .ok (.iconst 1, 1) := by decide +kernel
theorem dX10_lots_113 : decode cX10_lots 113 = .ok (.iadd, 1) := by decide +kernel
theorem dX10_lots_114 : decode cX10_lots 114 = .ok (.putfield 214, 3) := by decide +kernel
theorem dX10_lots_117 : decode cX10_lots 117 = .ok (.iinc 5 1, 3) := by decide +kernel
theorem dX10_lots_120 : decode cX10_lots 120 = .ok (.goto (-43), 3) := by decide +kernel
theorem dX10_lots_123 : decode cX10_lots 123 = .ok (.aload_n 0, 1) := by decide +kernel
theorem dX10_lots_124 : decode cX10_lots 124 = .ok (.iload_n 2, 1) := by decide +kernel
theorem dX10_lots_125 : decode cX10_lots 125 = .ok (.iload_n 3, 1) := by decide +kernel
theorem dX10_lots_126 : decode cX10_lots 126 = .ok (.invokevirtual 217, 3) := by decide +kernel
theorem dX10_lots_129 : decode cX10_lots 129 = .ok (.iconst 1, 1) := by decide +kernel
theorem dX10_lots_130 : decode cX10_lots 130 = .ok (.aload_n 0, 1) := by decide +kernel
theorem dX10_lots_131 : decode cX10_lots 131 = .ok (.getfield 214, 3) := by decide +kernel
theorem dX10_lots_134 : decode cX10_lots 134 = .ok (.ishl, 1) := by decide +kernel
theorem dX10_lots_135 : decode cX10_lots 135 = .ok (.iconst 1, 1) := by decide +kernel
theorem dX10_lots_136 : decode cX10_lots 136 = .ok (.isub, 1) := by decide +kernel
theorem dX10_lots_137 : decode cX10_lots 137 = .ok (.istore 5, 2) := by decide +kernel
theorem dX10_lots_139 : decode cX10_lots 139 = .ok (.aload_n 0, 1) := by decide +kernel
theorem dX10_lots_140 : decode cX10_lots 140 = .ok (.getfield 111, 3) := by decide +kernel
theorem dX10_lots_143 : decode cX10_lots 143 = .ok (.iload 5, 2) := by decide +kernel
theorem dX10_lots_145 : decode cX10_lots 145 = .ok (.iaload, 1) := by decide +kernel
theorem dX10_lots_146 : decode cX10_lots 146 = .ok (.sipush 1000, 3) := by decide +kernel
theorem dX10_lots_149 : decode cX10_lots 149 = .ok (.if_icmp .ge 15, 3) := by decide +kernel
theorem dX10_lots_152 : decode cX10_lots 152 = .ok (.iload 4, 2) := by decide +kernel
theorem dX10_lots_154 : decode cX10_lots 154 = .ok (.aload_n 0, 1) := by decide +kernel
theorem dX10_lots_155 : decode cX10_lots 155 = .ok (.getfield 111, 3) := by decide +kernel
theorem dX10_lots_158 : decode cX10_lots 158 = .ok (.iload 5, 2) := by decide +kernel
theorem dX10_lots_160 : decode cX10_lots 160 = .ok (.iaload, 1) := by decide +kernel
theorem dX10_lots_161 : decode cX10_lots 161 = .ok (.if_icmp .le 9, 3) := by decide +kernel
theorem dX10_lots_164 : decode cX10_lots 164 = .ok (.aload_n 0, 1) := by decide +kernel
theorem dX10_lots_165 : decode cX10_lots 165 = .ok (.iconst 2, 1) := by decide +kernel
theorem dX10_lots_166 : decode cX10_lots 166 = .ok (.invokevirtual 138, 3) := by decide +kernel
theorem dX10_lots_169 : decode cX10_lots 169 = .ok (.ireturn, 1) := by decide +kernel
theorem dX10_lots_170 : decode cX10_lots 170 = .ok (.iload 4, 2) := by decide +kernel
theorem dX10_lots_172 : decode cX10_lots 172 = .ok (.ifCond .ne 11, 3) := by decide +kernel
theorem dX10_lots_175 : decode cX10_lots 175 = .ok (.aload_n 0, 1) := by decide +kernel
theorem dX10_lots_176 : decode cX10_lots 176 = .ok (.getfield 111, 3) := by decide +kernel
theorem dX10_lots_179 : decode cX10_lots 179 = .ok (.iload 5, 2) := by decide +kernel
theorem dX10_lots_181 : decode cX10_lots 181 = .ok (.iaload, 1) := by decide +kernel
theorem dX10_lots_182 : decode cX10_lots 182 = .ok (.ireturn, 1) := by decide +kernel
theorem dX10_lots_183 : decode cX10_lots 183 = .ok (.iconst 0, 1) := by decide +kernel
theorem dX10_lots_184 : decode cX10_lots 184 = .ok (.istore 6, 2) := by decide +kernel
theorem dX10_lots_186 : decode cX10_lots 186 = .ok (.iconst 0, 1) := by decide +kernel
theorem dX10_lots_187 : decode cX10_lots 187 = .ok (.istore 7, 2) := by decide +kernel
theorem dX10_lots_189 : decode cX10_lots 189 = .ok (.iload 7, 2) := by decide +kernel
theorem dX10_lots_191 : decode cX10_lots 191 = .ok (.iload 4, 2) := by decide +kernel
theorem dX10_lots_193 : decode cX10_lots 193 = .ok (.if_icmp .ge 24, 3) := by decide +kernel
theorem dX10_lots_196 : decode cX10_lots 196 = .ok (.aload_n 0, 1) := by decide +kernel
theorem dX10_lots_197 : decode cX10_lots 197 = .ok (.iload 5, 2) := by decide +kernel
theorem dX10_lots_199 : decode cX10_lots 199 = .ok (.invokevirtual 220, 3) := by decide +kernel
theorem dX10_lots_202 : decode cX10_lots 202 = .ok (.istore 6, 2) := by decide +kernel
theorem dX10_lots_204 : decode cX10_lots 204 = .ok (.iload 5, 2) := by decide +kernel
theorem dX10_lots_206 : decode cX10_lots 206 = .ok (.iload 6, 2) := by decide +kernel
theorem dX10_lots_208 : decode cX10_lots 208 = .ok (.ixor, 1) := by decide +kernel
theorem dX10_lots_209 : decode cX10_lots 209 = .ok (.istore 5, 2) := by decide +kernel
theorem dX10_lots_211 : decode cX10_lots 211 = .ok (.iinc 7 1, 3) := by decide +kernel
theorem dX10_lots_214 : decode cX10_lots 214 = .ok (.goto (-25), 3) := by decide +kernel
theorem dX10_lots_217 : decode cX10_lots 217 = .ok (.iconst 0, 1) := by decide +kernel
theorem dX10_lots_218 : decode cX10_lots 218 = .ok (.istore 7, 2) := by decide +kernel
theorem dX10_lots_220 : decode cX10_lots 220 = .ok (.iconst 0, 1) := by decide +kernel
theorem dX10_lots_221 : decode cX10_lots 221 = .ok (.istore 8, 2) := by decide +kernel
theorem dX10_lots_223 : decode cX10_lots 223 = .ok (.iload 8, 2) := by decide +kernel
theorem dX10_lots_225 : decode cX10_lots 225 = .ok (.aload_n 0, 1) := by decide +kernel
theorem dX10_lots_226 : decode cX10_lots 226 = .ok (.getfield 214, 3) := by decide +kernel
theorem dX10_lots_229 : decode cX10_lots 229 = .ok (.if_icmp .ge 38, 3) := by decide +kernel
theorem dX10_lots_232 : decode cX10_lots 232 = .ok (.iload 7, 2) := by decide +kernel
theorem dX10_lots_234 : decode cX10_lots 234 = .ok (.iload 6, 2) := by decide +kernel
theorem dX10_lots_236 : decode cX10_lots 236 = .ok (.iload 8, 2) := by decide +kernel
theorem dX10_lots_238 : decode cX10_lots 238 = .ok (.ishr, 1) := by decide +kernel
theorem dX10_lots_239 : decode cX10_lots 239 = .ok (.iconst 1, 1) := by decide +kernel
theorem dX10_lots_240 : decode cX10_lots 240 = .ok (.iand, 1) := by decide +kernel
theorem dX10_lots_241 : decode cX10_lots 241 = .ok (.iconst 1, 1) := by decide +kernel
theorem dX10_lots_242 : decode cX10_lots 242 = .ok (.if_icmp .ne 15, 3) := by decide +kernel
theorem dX10_lots_245 : decode cX10_lots 245 = .ok (.iconst 1, 1) := by decide +kernel
theorem dX10_lots_246 : decode cX10_lots 246 = .ok (.aload_n 0, 1) := by decide +kernel
theorem dX10_lots_247 : decode cX10_lots 247 = .ok (.getfield 108, 3) := by decide +kernel
theorem dX10_lots_250 : decode cX10_lots 250 = .ok (.iload 8, 2) := by decide +kernel
theorem dX10_lots_252 : decode cX10_lots 252 = .ok (.iaload, 1) := by decide +kernel
theorem dX10_lots_253 : decode cX10_lots 253 = .ok (.ishl, 1) := by decide +kernel
theorem dX10_lots_254 : decode cX10_lots 254 = .ok (.goto 4, 3) := by decide +kernel
theorem dX10_lots_257 : decode cX10_lots 257 = .ok (.iconst 0, 1) := by decide +kernel
theorem dX10_lots_258 : decode cX10_lots 258 = .ok (.ior, 1) := by decide +kernel
theorem dX10_lots_259 : decode cX10_lots 259 = .ok (.istore 7, 2) := by decide +kernel
theorem dX10_lots_261 : decode cX10_lots 261 = .ok (.iinc 8 1, 3) := by decide +kernel
theorem dX10_lots_264 : decode cX10_lots 264 = .ok (.goto (-41), 3) := by decide +kernel
theorem dX10_lots_267 : decode cX10_lots 267 = .ok (.iload 7, 2) := by decide +kernel
theorem dX10_lots_269 : decode cX10_lots 269 = .ok (.ireturn, 1) := by decide +kernel
theorem dX10_waysOf_0 : decode cX10_waysOf 0 = .ok (.iload_n 2, 1) := by decide +kernel
theorem dX10_waysOf_1 : decode cX10_waysOf 1 = .ok (.ifCond .lt 8, 3) := by decide +kernel
theorem dX10_waysOf_4 : decode cX10_waysOf 4 = .ok (.iload_n 2, 1) := by decide +kernel
theorem dX10_waysOf_5 : decode cX10_waysOf 5 = .ok (.iload_n 1, 1) := by decide +kernel
theorem dX10_waysOf_6 : decode cX10_waysOf 6 = .ok (.if_icmp .le 7, 3) := by decide +kernel
theorem dX10_waysOf_9 : decode cX10_waysOf 9 = .ok (.lconst 0, 1) := by decide +kernel
theorem dX10_waysOf_10 : decode cX10_waysOf 10 = .ok (.goto 14, 3) := by decide +kernel
theorem dX10_waysOf_13 : decode cX10_waysOf 13 = .ok (.aload_n 0, 1) := by decide +kernel
theorem dX10_waysOf_14 : decode cX10_waysOf 14 = .ok (.getfield 117, 3) := by decide +kernel
theorem dX10_waysOf_17 : decode cX10_waysOf 17 = .ok (.bipush 61, 2) := by decide +kernel
theorem dX10_waysOf_19 : decode cX10_waysOf 19 = .ok (.iload_n 1, 1) := by decide +kernel
theorem dX10_waysOf_20 : decode cX10_waysOf 20 = .ok (.imul, 1) := by decide +kernel
theorem dX10_waysOf_21 : decode cX10_waysOf 21 = .ok (.iload_n 2, 1) := by decide +kernel
theorem dX10_waysOf_22 : decode cX10_waysOf 22 = .ok (.iadd, 1) := by decide +kernel
theorem dX10_waysOf_23 : decode cX10_waysOf 23 = .ok (.laload, 1) := by decide +kernel
theorem dX10_waysOf_24 : decode cX10_waysOf 24 = .ok (.lreturn, 1) := by decide +kernel
theorem dX10_tellWays_0 : decode cX10_tellWays 0 = .ok (.iconst 0, 1) := by decide +kernel
theorem dX10_tellWays_1 : decode cX10_tellWays 1 = .ok (.istore_n 1, 1) := by decide +kernel
theorem dX10_tellWays_2 : decode cX10_tellWays 2 = .ok (.iload_n 1, 1) := by decide +kernel
theorem dX10_tellWays_3 : decode cX10_tellWays 3 = .ok (.bipush 60, 2) := by decide +kernel
theorem dX10_tellWays_5 : decode cX10_tellWays 5 = .ok (.if_icmp .gt 62, 3) := by decide +kernel
theorem dX10_tellWays_8 : decode cX10_tellWays 8 = .ok (.aload_n 0, 1) := by decide +kernel
theorem dX10_tellWays_9 : decode cX10_tellWays 9 = .ok (.getfield 117, 3) := by decide +kernel
theorem dX10_tellWays_12 : decode cX10_tellWays 12 = .ok (.bipush 61, 2) := by decide +kernel
theorem dX10_tellWays_14 : decode cX10_tellWays 14 = .ok (.iload_n 1, 1) := by decide +kernel
theorem dX10_tellWays_15 : decode cX10_tellWays 15 = .ok (.imul, 1) := by decide +kernel
theorem dX10_tellWays_16 : decode cX10_tellWays 16 = .ok (.lconst 1, 1) := by decide +kernel
theorem dX10_tellWays_17 : decode cX10_tellWays 17 = .ok (.lastore, 1) := by decide +kernel
theorem dX10_tellWays_18 : decode cX10_tellWays 18 = .ok (.iconst 1, 1) := by decide +kernel
theorem dX10_tellWays_19 : decode cX10_tellWays 19 = .ok (.istore_n 2, 1) := by decide +kernel
theorem dX10_tellWays_20 : decode cX10_tellWays 20 = .ok (.iload_n 2, 1) := by decide +kernel
theorem dX10_tellWays_21 : decode cX10_tellWays 21 = .ok (.iload_n 1, 1) := by decide +kernel
theorem dX10_tellWays_22 : decode cX10_tellWays 22 = .ok (.if_icmp .gt 39, 3) := by decide +kernel
theorem dX10_tellWays_25 : decode cX10_tellWays 25 = .ok (.aload_n 0, 1) := by decide +kernel
theorem dX10_tellWays_26 : decode cX10_tellWays 26 = .ok (.getfield 117, 3) := by decide +kernel
theorem dX10_tellWays_29 : decode cX10_tellWays 29 = .ok (.bipush 61, 2) := by decide +kernel
theorem dX10_tellWays_31 : decode cX10_tellWays 31 = .ok (.iload_n 1, 1) := by decide +kernel
theorem dX10_tellWays_32 : decode cX10_tellWays 32 = .ok (.imul, 1) := by decide +kernel
theorem dX10_tellWays_33 : decode cX10_tellWays 33 = .ok (.iload_n 2, 1) := by decide +kernel
theorem dX10_tellWays_34 : decode cX10_tellWays 34 = .ok (.iadd, 1) := by decide +kernel
theorem dX10_tellWays_35 : decode cX10_tellWays 35 = .ok (.aload_n 0, 1) := by decide +kernel
theorem dX10_tellWays_36 : decode cX10_tellWays 36 = .ok (.iload_n 1, 1) := by decide +kernel
theorem dX10_tellWays_37 : decode cX10_tellWays 37 = .ok (.iconst 1, 1) := by decide +kernel
theorem dX10_tellWays_38 : decode cX10_tellWays 38 = .ok (.isub, 1) := by decide +kernel
theorem dX10_tellWays_39 : decode cX10_tellWays 39 = .ok (.iload_n 2, 1) := by decide +kernel
theorem dX10_tellWays_40 : decode cX10_tellWays 40 = .ok (.iconst 1, 1) := by decide +kernel
theorem dX10_tellWays_41 : decode cX10_tellWays 41 = .ok (.isub, 1) := by decide +kernel
theorem dX10_tellWays_42 : decode cX10_tellWays 42 = .ok (.invokevirtual 223, 3) := by decide +kernel
theorem dX10_tellWays_45 : decode cX10_tellWays 45 = .ok (.aload_n 0, 1) := by decide +kernel
theorem dX10_tellWays_46 : decode cX10_tellWays 46 = .ok (.iload_n 1, 1) := by decide +kernel
theorem dX10_tellWays_47 : decode cX10_tellWays 47 = .ok (.iconst 1, 1) := by decide +kernel
theorem dX10_tellWays_48 : decode cX10_tellWays 48 = .ok (.isub, 1) := by decide +kernel
theorem dX10_tellWays_49 : decode cX10_tellWays 49 = .ok (.iload_n 2, 1) := by decide +kernel
theorem dX10_tellWays_50 : decode cX10_tellWays 50 = .ok (.invokevirtual 223, 3) := by decide +kernel
theorem dX10_tellWays_53 : decode cX10_tellWays 53 = .ok (.ladd, 1) := by decide +kernel
theorem dX10_tellWays_54 : decode cX10_tellWays 54 = .ok (.lastore, 1) := by decide +kernel
theorem dX10_tellWays_55 : decode cX10_tellWays 55 = .ok (.iinc 2 1, 3) := by decide +kernel
theorem dX10_tellWays_58 : decode cX10_tellWays 58 = .ok (.goto (-38), 3) := by decide +kernel
theorem dX10_tellWays_61 : decode cX10_tellWays 61 = .ok (.iinc 1 1, 3) := by decide +kernel
theorem dX10_tellWays_64 : decode cX10_tellWays 64 = .ok (.goto (-62), 3) := by decide +kernel
theorem dX10_tellWays_67 : decode cX10_tellWays 67 = .ok (.return_, 1) := by decide +kernel
theorem dX10_sorted_0 : decode cX10_sorted 0 = .ok (.iload_n 1, 1) := by decide +kernel
theorem dX10_sorted_1 : decode cX10_sorted 1 = .ok (.iconst 0, 1) := by decide +kernel
theorem dX10_sorted_2 : decode cX10_sorted 2 = .ok (.iconst 5, 1) := by decide +kernel
theorem dX10_sorted_3 : decode cX10_sorted 3 = .ok (.invokestatic 131, 3) := by decide +kernel
theorem dX10_sorted_6 : decode cX10_sorted 6 = .ok (.ifCond .eq 12, 3) := by decide +kernel
theorem dX10_sorted_9 : decode cX10_sorted 9 = .ok (.iload_n 2, 1) := by decide +kernel
theorem dX10_sorted_10 : decode cX10_sorted 10 = .ok (.iconst 0, 1) := by decide +kernel
theorem dX10_sorted_11 : decode cX10_sorted 11 = .ok (.iconst 1, 1) := by decide +kernel
theorem dX10_sorted_12 : decode cX10_sorted 12 = .ok (.invokestatic 131, 3) := by decide +kernel
theorem dX10_sorted_15 : decode cX10_sorted 15 = .ok (.ifCond .ne 9, 3) := by decide +kernel
theorem dX10_sorted_18 : decode cX10_sorted 18 = .ok (.aload_n 0, 1) := by decide +kernel
theorem dX10_sorted_19 : decode cX10_sorted 19 = .ok (.iconst 1, 1) := by decide +kernel
theorem dX10_sorted_20 : decode cX10_sorted 20 = .ok (.invokevirtual 138, 3) := by decide +kernel
theorem dX10_sorted_23 : decode cX10_sorted 23 = .ok (.ireturn, 1) := by decide +kernel
theorem dX10_sorted_24 : decode cX10_sorted 24 = .ok (.aload_n 0, 1) := by decide +kernel
theorem dX10_sorted_25 : decode cX10_sorted 25 = .ok (.getfield 227, 3) := by decide +kernel
theorem dX10_sorted_28 : decode cX10_sorted 28 = .ok (.bipush 60, 2) := by decide +kernel
theorem dX10_sorted_30 : decode cX10_sorted 30 = .ok (.if_icmp .ne 9, 3) := by decide +kernel
theorem dX10_sorted_33 : decode cX10_sorted 33 = .ok (.aload_n 0, 1) := by decide +kernel
theorem dX10_sorted_34 : decode cX10_sorted 34 = .ok (.iconst 4, 1) := by decide +kernel
theorem dX10_sorted_35 : decode cX10_sorted 35 = .ok (.invokevirtual 138, 3) := by decide +kernel
theorem dX10_sorted_38 : decode cX10_sorted 38 = .ok (.ireturn, 1) := by decide +kernel
theorem dX10_sorted_39 : decode cX10_sorted 39 = .ok (.aload_n 0, 1) := by decide +kernel
theorem dX10_sorted_40 : decode cX10_sorted 40 = .ok (.getfield 84, 3) := by decide +kernel
theorem dX10_sorted_43 : decode cX10_sorted 43 = .ok (.aload_n 0, 1) := by decide +kernel
theorem dX10_sorted_44 : decode cX10_sorted 44 = .ok (.getfield 227, 3) := by decide +kernel
theorem dX10_sorted_47 : decode cX10_sorted 47 = .ok (.iload_n 1, 1) := by decide +kernel
theorem dX10_sorted_48 : decode cX10_sorted 48 = .ok (.iastore, 1) := by decide +kernel
theorem dX10_sorted_49 : decode cX10_sorted 49 = .ok (.aload_n 0, 1) := by decide +kernel
theorem dX10_sorted_50 : decode cX10_sorted 50 = .ok (.getfield 87, 3) := by decide +kernel
theorem dX10_sorted_53 : decode cX10_sorted 53 = .ok (.aload_n 0, 1) := by decide +kernel
theorem dX10_sorted_54 : decode cX10_sorted 54 = .ok (.getfield 227, 3) := by decide +kernel
theorem dX10_sorted_57 : decode cX10_sorted 57 = .ok (.iload_n 2, 1) := by decide +kernel
theorem dX10_sorted_58 : decode cX10_sorted 58 = .ok (.iastore, 1) := by decide +kernel
theorem dX10_sorted_59 : decode cX10_sorted 59 = .ok (.aload_n 0, 1) := by decide +kernel
theorem dX10_sorted_60 : decode cX10_sorted 60 = .ok (.dup, 1) := by decide +kernel
theorem dX10_sorted_61 : decode cX10_sorted 61 = .ok (.getfield 227, 3) := by decide +kernel
theorem dX10_sorted_64 : decode cX10_sorted 64 = .ok (.iconst 1, 1) := by decide +kernel
theorem dX10_sorted_65 : decode cX10_sorted 65 = .ok (.iadd, 1) := by decide +kernel
theorem dX10_sorted_66 : decode cX10_sorted 66 = .ok (.putfield 227, 3) := by decide +kernel
theorem dX10_sorted_69 : decode cX10_sorted 69 = .ok (.aload_n 0, 1) := by decide +kernel
theorem dX10_sorted_70 : decode cX10_sorted 70 = .ok (.getfield 227, 3) := by decide +kernel
theorem dX10_sorted_73 : decode cX10_sorted 73 = .ok (.ireturn, 1) := by decide +kernel
theorem dX10_sorter_0 : decode cX10_sorter 0 = .ok (.iload_n 1, 1) := by decide +kernel
theorem dX10_sorter_1 : decode cX10_sorter 1 = .ok (.iconst 0, 1) := by decide +kernel
theorem dX10_sorter_2 : decode cX10_sorter 2 = .ok (.iconst 5, 1) := by decide +kernel
theorem dX10_sorter_3 : decode cX10_sorter 3 = .ok (.invokestatic 131, 3) := by decide +kernel
theorem dX10_sorter_6 : decode cX10_sorter 6 = .ok (.ifCond .eq 12, 3) := by decide +kernel
theorem dX10_sorter_9 : decode cX10_sorter 9 = .ok (.iload_n 2, 1) := by decide +kernel
theorem dX10_sorter_10 : decode cX10_sorter 10 = .ok (.iconst 0, 1) := by decide +kernel
theorem dX10_sorter_11 : decode cX10_sorter 11 = .ok (.iconst 2, 1) := by decide +kernel
theorem dX10_sorter_12 : decode cX10_sorter 12 = .ok (.invokestatic 131, 3) := by decide +kernel
theorem dX10_sorter_15 : decode cX10_sorter 15 = .ok (.ifCond .ne 9, 3) := by decide +kernel
theorem dX10_sorter_18 : decode cX10_sorter 18 = .ok (.aload_n 0, 1) := by decide +kernel
theorem dX10_sorter_19 : decode cX10_sorter 19 = .ok (.iconst 1, 1) := by decide +kernel
theorem dX10_sorter_20 : decode cX10_sorter 20 = .ok (.invokevirtual 138, 3) := by decide +kernel
theorem dX10_sorter_23 : decode cX10_sorter 23 = .ok (.ireturn, 1) := by decide +kernel
theorem dX10_sorter_24 : decode cX10_sorter 24 = .ok (.iconst 0, 1) := by decide +kernel
theorem dX10_sorter_25 : decode cX10_sorter 25 = .ok (.istore_n 3, 1) := by decide +kernel
theorem dX10_sorter_26 : decode cX10_sorter 26 = .ok (.iconst 0, 1) := by decide +kernel
theorem dX10_sorter_27 : decode cX10_sorter 27 = .ok (.istore 4, 2) := by decide +kernel
theorem dX10_sorter_29 : decode cX10_sorter 29 = .ok (.iconst 0, 1) := by decide +kernel
theorem dX10_sorter_30 : decode cX10_sorter 30 = .ok (.istore 5, 2) := by decide +kernel
theorem dX10_sorter_32 : decode cX10_sorter 32 = .ok (.iconst 0, 1) := by decide +kernel
theorem dX10_sorter_33 : decode cX10_sorter 33 = .ok (.istore 6, 2) := by decide +kernel
theorem dX10_sorter_35 : decode cX10_sorter 35 = .ok (.iload 6, 2) := by decide +kernel
theorem dX10_sorter_37 : decode cX10_sorter 37 = .ok (.aload_n 0, 1) := by decide +kernel
theorem dX10_sorter_38 : decode cX10_sorter 38 = .ok (.getfield 227, 3) := by decide +kernel
theorem dX10_sorter_41 : decode cX10_sorter 41 = .ok (.if_icmp .ge 67, 3) := by decide +kernel
theorem dX10_sorter_44 : decode cX10_sorter 44 = .ok (.iload_n 3, 1) := by decide +kernel
theorem dX10_sorter_45 : decode cX10_sorter 45 = .ok (.aload_n 0, 1) := by decide +kernel
theorem dX10_sorter_46 : decode cX10_sorter 46 = .ok (.getfield 87, 3) := by decide +kernel
theorem dX10_sorter_49 : decode cX10_sorter 49 = .ok (.iload 6, 2) := by decide +kernel
theorem dX10_sorter_51 : decode cX10_sorter 51 = .ok (.iaload, 1) := by decide +kernel
theorem dX10_sorter_52 : decode cX10_sorter 52 = .ok (.iadd, 1) := by decide +kernel
theorem dX10_sorter_53 : decode cX10_sorter 53 = .ok (.istore_n 3, 1) := by decide +kernel
theorem dX10_sorter_54 : decode cX10_sorter 54 = .ok (.iload 4, 2) := by decide +kernel
theorem dX10_sorter_56 : decode cX10_sorter 56 = .ok (.aload_n 0, 1) := by decide +kernel
theorem dX10_sorter_57 : decode cX10_sorter 57 = .ok (.getfield 84, 3) := by decide +kernel
theorem dX10_sorter_60 : decode cX10_sorter 60 = .ok (.iload 6, 2) := by decide +kernel
theorem dX10_sorter_62 : decode cX10_sorter 62 = .ok (.iaload, 1) := by decide +kernel
theorem dX10_sorter_63 : decode cX10_sorter 63 = .ok (.iload_n 1, 1) := by decide +kernel
theorem dX10_sorter_64 : decode cX10_sorter 64 = .ok (.if_icmp .ne 7, 3) := by decide +kernel
theorem dX10_sorter_67 : decode cX10_sorter 67 = .ok (.iconst 1, 1) := by decide +kernel
theorem dX10_sorter_68 : decode cX10_sorter 68 = .ok (.goto 4, 3) := by decide +kernel
theorem dX10_sorter_71 : decode cX10_sorter 71 = .ok (.iconst 0, 1) := by decide +kernel
theorem dX10_sorter_72 : decode cX10_sorter 72 = .ok (.iadd, 1) := by decide +kernel
theorem dX10_sorter_73 : decode cX10_sorter 73 = .ok (.istore 4, 2) := by decide +kernel
theorem dX10_sorter_75 : decode cX10_sorter 75 = .ok (.iload 5, 2) := by decide +kernel
theorem dX10_sorter_77 : decode cX10_sorter 77 = .ok (.aload_n 0, 1) := by decide +kernel
theorem dX10_sorter_78 : decode cX10_sorter 78 = .ok (.getfield 84, 3) := by decide +kernel
theorem dX10_sorter_81 : decode cX10_sorter 81 = .ok (.iload 6, 2) := by decide +kernel
theorem dX10_sorter_83 : decode cX10_sorter 83 = .ok (.iaload, 1) := by decide +kernel
theorem dX10_sorter_84 : decode cX10_sorter 84 = .ok (.iload_n 1, 1) := by decide +kernel
theorem dX10_sorter_85 : decode cX10_sorter 85 = .ok (.if_icmp .ne 13, 3) := by decide +kernel
theorem dX10_sorter_88 : decode cX10_sorter 88 = .ok (.aload_n 0, 1) := by decide +kernel
theorem dX10_sorter_89 : decode cX10_sorter 89 = .ok (.getfield 87, 3) := by decide +kernel
theorem dX10_sorter_92 : decode cX10_sorter 92 = .ok (.iload 6, 2) := by decide +kernel
theorem dX10_sorter_94 : decode cX10_sorter 94 = .ok (.iaload, 1) := by decide +kernel
theorem dX10_sorter_95 : decode cX10_sorter 95 = .ok (.goto 4, 3) := by decide +kernel
theorem dX10_sorter_98 : decode cX10_sorter 98 = .ok (.iconst 0, 1) := by decide +kernel
theorem dX10_sorter_99 : decode cX10_sorter 99 = .ok (.iadd, 1) := by decide +kernel
theorem dX10_sorter_100 : decode cX10_sorter 100 = .ok (.istore 5, 2) := by decide +kernel
theorem dX10_sorter_102 : decode cX10_sorter 102 = .ok (.iinc 6 1, 3) := by decide +kernel
theorem dX10_sorter_105 : decode cX10_sorter 105 = .ok (.goto (-70), 3) := by decide +kernel
theorem dX10_sorter_108 : decode cX10_sorter 108 = .ok (.iload_n 2, 1) := by decide +kernel
theorem dX10_sorter_109 : decode cX10_sorter 109 = .ok (.iconst 2, 1) := by decide +kernel
theorem dX10_sorter_110 : decode cX10_sorter 110 = .ok (.if_icmp .ge 15, 3) := by decide +kernel
theorem dX10_sorter_113 : decode cX10_sorter 113 = .ok (.iload_n 2, 1) := by decide +kernel
theorem dX10_sorter_114 : decode cX10_sorter 114 = .ok (.ifCond .ne 8, 3) := by decide +kernel
theorem dX10_sorter_117 : decode cX10_sorter 117 = .ok (.iload 4, 2) := by decide +kernel
theorem dX10_sorter_119 : decode cX10_sorter 119 = .ok (.goto 5, 3) := by decide +kernel
theorem dX10_sorter_122 : decode cX10_sorter 122 = .ok (.iload 5, 2) := by decide +kernel
theorem dX10_sorter_124 : decode cX10_sorter 124 = .ok (.ireturn, 1) := by decide +kernel
theorem dX10_sorter_125 : decode cX10_sorter 125 = .ok (.aload_n 0, 1) := by decide +kernel
theorem dX10_sorter_126 : decode cX10_sorter 126 = .ok (.invokevirtual 230, 3) := by decide +kernel
theorem dX10_sorter_129 : decode cX10_sorter 129 = .ok (.lconst 0, 1) := by decide +kernel
theorem dX10_sorter_130 : decode cX10_sorter 130 = .ok (.lstore 6, 2) := by decide +kernel
theorem dX10_sorter_132 : decode cX10_sorter 132 = .ok (.iload 5, 2) := by decide +kernel
theorem dX10_sorter_134 : decode cX10_sorter 134 = .ok (.istore 8, 2) := by decide +kernel
theorem dX10_sorter_136 : decode cX10_sorter 136 = .ok (.iload 8, 2) := by decide +kernel
theorem dX10_sorter_138 : decode cX10_sorter 138 = .ok (.iload 4, 2) := by decide +kernel
theorem dX10_sorter_140 : decode cX10_sorter 140 = .ok (.if_icmp .gt 37, 3) := by decide +kernel
theorem dX10_sorter_143 : decode cX10_sorter 143 = .ok (.lload 6, 2) := by decide +kernel
theorem dX10_sorter_145 : decode cX10_sorter 145 = .ok (.aload_n 0, 1) := by decide +kernel
theorem dX10_sorter_146 : decode cX10_sorter 146 = .ok (.iload_n 3, 1) := by decide +kernel
theorem dX10_sorter_147 : decode cX10_sorter 147 = .ok (.iload 8, 2) := by decide +kernel
theorem dX10_sorter_149 : decode cX10_sorter 149 = .ok (.invokevirtual 223, 3) := by decide +kernel
theorem dX10_sorter_152 : decode cX10_sorter 152 = .ok (.aload_n 0, 1) := by decide +kernel
theorem dX10_sorter_153 : decode cX10_sorter 153 = .ok (.aload_n 0, 1) := by decide +kernel
theorem dX10_sorter_154 : decode cX10_sorter 154 = .ok (.getfield 227, 3) := by decide +kernel
theorem dX10_sorter_157 : decode cX10_sorter 157 = .ok (.iload_n 3, 1) := by decide +kernel
theorem dX10_sorter_158 : decode cX10_sorter 158 = .ok (.isub, 1) := by decide +kernel
theorem dX10_sorter_159 : decode cX10_sorter 159 = .ok (.iload 4, 2) := by decide +kernel
theorem dX10_sorter_161 : decode cX10_sorter 161 = .ok (.iload 8, 2) := by decide +kernel
theorem dX10_sorter_163 : decode cX10_sorter 163 = .ok (.isub, 1) := by decide +kernel
theorem dX10_sorter_164 : decode cX10_sorter 164 = .ok (.invokevirtual 223, 3) := by decide +kernel
theorem dX10_sorter_167 : decode cX10_sorter 167 = .ok (.lmul, 1) := by decide +kernel
theorem dX10_sorter_168 : decode cX10_sorter 168 = .ok (.ladd, 1) := by decide +kernel
theorem dX10_sorter_169 : decode cX10_sorter 169 = .ok (.lstore 6, 2) := by decide +kernel
theorem dX10_sorter_171 : decode cX10_sorter 171 = .ok (.iinc 8 1, 3) := by decide +kernel
theorem dX10_sorter_174 : decode cX10_sorter 174 = .ok (.goto (-38), 3) := by decide +kernel
theorem dX10_sorter_177 : decode cX10_sorter 177 = .ok (.iload 5, 2) := by decide +kernel
theorem dX10_sorter_179 : decode cX10_sorter 179 = .ok (.ifCond .le 27, 3) := by decide +kernel
theorem dX10_sorter_182 : decode cX10_sorter 182 = .ok (.ldc2_w 233, 3) := by decide +kernel
theorem dX10_sorter_185 : decode cX10_sorter 185 = .ok (.lload 6, 2) := by decide +kernel
theorem dX10_sorter_187 : decode cX10_sorter 187 = .ok (.lmul, 1) := by decide +kernel
theorem dX10_sorter_188 : decode cX10_sorter 188 = .ok (.aload_n 0, 1) := by decide +kernel
theorem dX10_sorter_189 : decode cX10_sorter 189 = .ok (.aload_n 0, 1) := by decide +kernel
theorem dX10_sorter_190 : decode cX10_sorter 190 = .ok (.getfield 227, 3) := by decide +kernel
theorem dX10_sorter_193 : decode cX10_sorter 193 = .ok (.iload 4, 2) := by decide +kernel
theorem dX10_sorter_195 : decode cX10_sorter 195 = .ok (.invokevirtual 223, 3) := by decide +kernel
theorem dX10_sorter_198 : decode cX10_sorter 198 = .ok (.lcmp, 1) := by decide +kernel
theorem dX10_sorter_199 : decode cX10_sorter 199 = .ok (.ifCond .gt 7, 3) := by decide +kernel
theorem dX10_sorter_202 : decode cX10_sorter 202 = .ok (.iconst 1, 1) := by decide +kernel
theorem dX10_sorter_203 : decode cX10_sorter 203 = .ok (.goto 4, 3) := by decide +kernel
theorem dX10_sorter_206 : decode cX10_sorter 206 = .ok (.iconst 0, 1) := by decide +kernel
theorem dX10_sorter_207 : decode cX10_sorter 207 = .ok (.ireturn, 1) := by decide +kernel
theorem dX10_money_0 : decode cX10_money 0 = .ok (.aload_n 0, 1) := by decide +kernel
theorem dX10_money_1 : decode cX10_money 1 = .ok (.iload_n 1, 1) := by decide +kernel
theorem dX10_money_2 : decode cX10_money 2 = .ok (.invokevirtual 150, 3) := by decide +kernel
theorem dX10_money_5 : decode cX10_money 5 = .ok (.ifCond .eq 22, 3) := by decide +kernel
theorem dX10_money_8 : decode cX10_money 8 = .ok (.iload_n 2, 1) := by decide +kernel
theorem dX10_money_9 : decode cX10_money 9 = .ok (.iconst 0, 1) := by decide +kernel
theorem dX10_money_10 : decode cX10_money 10 = .ok (.iconst 3, 1) := by decide +kernel
theorem dX10_money_11 : decode cX10_money 11 = .ok (.invokestatic 131, 3) := by decide +kernel
theorem dX10_money_14 : decode cX10_money 14 = .ok (.ifCond .eq 13, 3) := by decide +kernel
theorem dX10_money_17 : decode cX10_money 17 = .ok (.iload_n 3, 1) := by decide +kernel
theorem dX10_money_18 : decode cX10_money 18 = .ok (.iconst 0, 1) := by decide +kernel
theorem dX10_money_19 : decode cX10_money 19 = .ok (.ldc 207, 2) := by decide +kernel
theorem dX10_money_21 : decode cX10_money 21 = .ok (.invokestatic 131, 3) := by decide +kernel
theorem dX10_money_24 : decode cX10_money 24 = .ok (.ifCond .ne 9, 3) := by decide +kernel
theorem dX10_money_27 : decode cX10_money 27 = .ok (.aload_n 0, 1) := by decide +kernel
theorem dX10_money_28 : decode cX10_money 28 = .ok (.iconst 1, 1) := by decide +kernel
theorem dX10_money_29 : decode cX10_money 29 = .ok (.invokevirtual 138, 3) := by decide +kernel
theorem dX10_money_32 : decode cX10_money 32 = .ok (.ireturn, 1) := by decide +kernel
theorem dX10_money_33 : decode cX10_money 33 = .ok (.aload_n 0, 1) := by decide +kernel
theorem dX10_money_34 : decode cX10_money 34 = .ok (.getfield 13, 3) := by decide +kernel
theorem dX10_money_37 : decode cX10_money 37 = .ok (.iload_n 1, 1) := by decide +kernel
theorem dX10_money_38 : decode cX10_money 38 = .ok (.iaload, 1) := by decide +kernel
theorem dX10_money_39 : decode cX10_money 39 = .ok (.iconst 3, 1) := by decide +kernel
theorem dX10_money_40 : decode cX10_money 40 = .ok (.if_icmp .eq 9, 3) := by decide +kernel
theorem dX10_money_43 : decode cX10_money 43 = .ok (.aload_n 0, 1) := by decide +kernel
theorem dX10_money_44 : decode cX10_money 44 = .ok (.iconst 5, 1) := by decide +kernel
theorem dX10_money_45 : decode cX10_money 45 = .ok (.invokevirtual 138, 3) := by decide +kernel
theorem dX10_money_48 : decode cX10_money 48 = .ok (.ireturn, 1) := by decide +kernel
theorem dX10_money_49 : decode cX10_money 49 = .ok (.aload_n 0, 1) := by decide +kernel
theorem dX10_money_50 : decode cX10_money 50 = .ok (.getfield 32, 3) := by decide +kernel
theorem dX10_money_53 : decode cX10_money 53 = .ok (.iload_n 1, 1) := by decide +kernel
theorem dX10_money_54 : decode cX10_money 54 = .ok (.iaload, 1) := by decide +kernel
theorem dX10_money_55 : decode cX10_money 55 = .ok (.ifCond .eq 9, 3) := by decide +kernel
theorem dX10_money_58 : decode cX10_money 58 = .ok (.aload_n 0, 1) := by decide +kernel
theorem dX10_money_59 : decode cX10_money 59 = .ok (.iconst 3, 1) := by decide +kernel
theorem dX10_money_60 : decode cX10_money 60 = .ok (.invokevirtual 138, 3) := by decide +kernel
theorem dX10_money_63 : decode cX10_money 63 = .ok (.ireturn, 1) := by decide +kernel
theorem dX10_money_64 : decode cX10_money 64 = .ok (.aload_n 0, 1) := by decide +kernel
theorem dX10_money_65 : decode cX10_money 65 = .ok (.getfield 48, 3) := by decide +kernel
theorem dX10_money_68 : decode cX10_money 68 = .ok (.iconst 4, 1) := by decide +kernel
theorem dX10_money_69 : decode cX10_money 69 = .ok (.iload_n 1, 1) := by decide +kernel
theorem dX10_money_70 : decode cX10_money 70 = .ok (.imul, 1) := by decide +kernel
theorem dX10_money_71 : decode cX10_money 71 = .ok (.iload_n 2, 1) := by decide +kernel
theorem dX10_money_72 : decode cX10_money 72 = .ok (.iadd, 1) := by decide +kernel
theorem dX10_money_73 : decode cX10_money 73 = .ok (.iload_n 3, 1) := by decide +kernel
theorem dX10_money_74 : decode cX10_money 74 = .ok (.iastore, 1) := by decide +kernel
theorem dX10_money_75 : decode cX10_money 75 = .ok (.iconst 0, 1) := by decide +kernel
theorem dX10_money_76 : decode cX10_money 76 = .ok (.istore 4, 2) := by decide +kernel
theorem dX10_money_78 : decode cX10_money 78 = .ok (.iconst 0, 1) := by decide +kernel
theorem dX10_money_79 : decode cX10_money 79 = .ok (.istore 5, 2) := by decide +kernel
theorem dX10_money_81 : decode cX10_money 81 = .ok (.iload 5, 2) := by decide +kernel
theorem dX10_money_83 : decode cX10_money 83 = .ok (.iconst 4, 1) := by decide +kernel
theorem dX10_money_84 : decode cX10_money 84 = .ok (.if_icmp .ge 33, 3) := by decide +kernel
theorem dX10_money_87 : decode cX10_money 87 = .ok (.iload 4, 2) := by decide +kernel
theorem dX10_money_89 : decode cX10_money 89 = .ok (.aload_n 0, 1) := by decide +kernel
theorem dX10_money_90 : decode cX10_money 90 = .ok (.getfield 48, 3) := by decide +kernel
theorem dX10_money_93 : decode cX10_money 93 = .ok (.iconst 4, 1) := by decide +kernel
theorem dX10_money_94 : decode cX10_money 94 = .ok (.iload_n 1, 1) := by decide +kernel
theorem dX10_money_95 : decode cX10_money 95 = .ok (.imul, 1) := by decide +kernel
theorem dX10_money_96 : decode cX10_money 96 = .ok (.iload 5, 2) := by decide +kernel
theorem dX10_money_98 : decode cX10_money 98 = .ok (.iadd, 1) := by decide +kernel
theorem dX10_money_99 : decode cX10_money 99 = .ok (.iaload, 1) := by decide +kernel
theorem dX10_money_100 : decode cX10_money 100 = .ok (.ifCond .lt 7, 3) := by decide +kernel
theorem dX10_money_103 : decode cX10_money 103 = .ok (.iconst 1, 1) := by decide +kernel
theorem dX10_money_104 : decode cX10_money 104 = .ok (.goto 4, 3) := by decide +kernel
theorem dX10_money_107 : decode cX10_money 107 = .ok (.iconst 0, 1) := by decide +kernel
theorem dX10_money_108 : decode cX10_money 108 = .ok (.iadd, 1) := by decide +kernel
theorem dX10_money_109 : decode cX10_money 109 = .ok (.istore 4, 2) := by decide +kernel
theorem dX10_money_111 : decode cX10_money 111 = .ok (.iinc 5 1, 3) := by decide +kernel
theorem dX10_money_114 : decode cX10_money 114 = .ok (.goto (-33), 3) := by decide +kernel
theorem dX10_money_117 : decode cX10_money 117 = .ok (.iload 4, 2) := by decide +kernel
theorem dX10_money_119 : decode cX10_money 119 = .ok (.ireturn, 1) := by decide +kernel
theorem dX10_handsFor_0 : decode cX10_handsFor 0 = .ok (.iconst 0, 1) := by decide +kernel
theorem dX10_handsFor_1 : decode cX10_handsFor 1 = .ok (.istore_n 3, 1) := by decide +kernel
theorem dX10_handsFor_2 : decode cX10_handsFor 2 = .ok (.iconst 0, 1) := by decide +kernel
theorem dX10_handsFor_3 : decode cX10_handsFor 3 = .ok (.istore 4, 2) := by decide +kernel
theorem dX10_handsFor_5 : decode cX10_handsFor 5 = .ok (.iload 4, 2) := by decide +kernel
theorem dX10_handsFor_7 : decode cX10_handsFor 7 = .ok (.iconst 4, 1) := by decide +kernel
theorem dX10_handsFor_8 : decode cX10_handsFor 8 = .ok (.if_icmp .ge 32, 3) := by decide +kernel
theorem dX10_handsFor_11 : decode cX10_handsFor 11 = .ok (.iload_n 3, 1) := by decide +kernel
theorem dX10_handsFor_12 : decode cX10_handsFor 12 = .ok (.aload_n 0, 1) := by decide +kernel
theorem dX10_handsFor_13 : decode cX10_handsFor 13 = .ok (.getfield 48, 3) := by decide +kernel
theorem dX10_handsFor_16 : decode cX10_handsFor 16 = .ok (.iconst 4, 1) := by decide +kernel
theorem dX10_handsFor_17 : decode cX10_handsFor 17 = .ok (.iload_n 1, 1) := by decide +kernel
theorem dX10_handsFor_18 : decode cX10_handsFor 18 = .ok (.imul, 1) := by decide +kernel
theorem dX10_handsFor_19 : decode cX10_handsFor 19 = .ok (.iload 4, 2) := by decide +kernel
theorem dX10_handsFor_21 : decode cX10_handsFor 21 = .ok (.iadd, 1) := by decide +kernel
theorem dX10_handsFor_22 : decode cX10_handsFor 22 = .ok (.iaload, 1) := by decide +kernel
theorem dX10_handsFor_23 : decode cX10_handsFor 23 = .ok (.iload_n 2, 1) := by decide +kernel
theorem dX10_handsFor_24 : decode cX10_handsFor 24 = .ok (.if_icmp .ne 7, 3) := by decide +kernel
theorem dX10_handsFor_27 : decode cX10_handsFor 27 = .ok (.iconst 1, 1) := by decide +kernel
theorem dX10_handsFor_28 : decode cX10_handsFor 28 = .ok (.goto 4, 3) := by decide +kernel
theorem dX10_handsFor_31 : decode cX10_handsFor 31 = .ok (.iconst 0, 1) := by decide +kernel
theorem dX10_handsFor_32 : decode cX10_handsFor 32 = .ok (.iadd, 1) := by decide +kernel
theorem dX10_handsFor_33 : decode cX10_handsFor 33 = .ok (.istore_n 3, 1) := by decide +kernel
theorem dX10_handsFor_34 : decode cX10_handsFor 34 = .ok (.iinc 4 1, 3) := by decide +kernel
theorem dX10_handsFor_37 : decode cX10_handsFor 37 = .ok (.goto (-32), 3) := by decide +kernel
theorem dX10_handsFor_40 : decode cX10_handsFor 40 = .ok (.iload_n 3, 1) := by decide +kernel
theorem dX10_handsFor_41 : decode cX10_handsFor 41 = .ok (.ireturn, 1) := by decide +kernel
theorem dX10_counted_0 : decode cX10_counted 0 = .ok (.aload_n 0, 1) := by decide +kernel
theorem dX10_counted_1 : decode cX10_counted 1 = .ok (.iload_n 1, 1) := by decide +kernel
theorem dX10_counted_2 : decode cX10_counted 2 = .ok (.invokevirtual 150, 3) := by decide +kernel
theorem dX10_counted_5 : decode cX10_counted 5 = .ok (.ifCond .ne 9, 3) := by decide +kernel
theorem dX10_counted_8 : decode cX10_counted 8 = .ok (.aload_n 0, 1) := by decide +kernel
theorem dX10_counted_9 : decode cX10_counted 9 = .ok (.iconst 1, 1) := by decide +kernel
theorem dX10_counted_10 : decode cX10_counted 10 = .ok (.invokevirtual 138, 3) := by decide +kernel
theorem dX10_counted_13 : decode cX10_counted 13 = .ok (.ireturn, 1) := by decide +kernel
theorem dX10_counted_14 : decode cX10_counted 14 = .ok (.aload_n 0, 1) := by decide +kernel
theorem dX10_counted_15 : decode cX10_counted 15 = .ok (.getfield 13, 3) := by decide +kernel
theorem dX10_counted_18 : decode cX10_counted 18 = .ok (.iload_n 1, 1) := by decide +kernel
theorem dX10_counted_19 : decode cX10_counted 19 = .ok (.iaload, 1) := by decide +kernel
theorem dX10_counted_20 : decode cX10_counted 20 = .ok (.iconst 3, 1) := by decide +kernel
theorem dX10_counted_21 : decode cX10_counted 21 = .ok (.if_icmp .eq 9, 3) := by decide +kernel
theorem dX10_counted_24 : decode cX10_counted 24 = .ok (.aload_n 0, 1) := by decide +kernel
theorem dX10_counted_25 : decode cX10_counted 25 = .ok (.iconst 5, 1) := by decide +kernel
theorem dX10_counted_26 : decode cX10_counted 26 = .ok (.invokevirtual 138, 3) := by decide +kernel
theorem dX10_counted_29 : decode cX10_counted 29 = .ok (.ireturn, 1) := by decide +kernel
theorem dX10_counted_30 : decode cX10_counted 30 = .ok (.iconst 0, 1) := by decide +kernel
theorem dX10_counted_31 : decode cX10_counted 31 = .ok (.istore_n 2, 1) := by decide +kernel
theorem dX10_counted_32 : decode cX10_counted 32 = .ok (.iload_n 2, 1) := by decide +kernel
theorem dX10_counted_33 : decode cX10_counted 33 = .ok (.iconst 4, 1) := by decide +kernel
theorem dX10_counted_34 : decode cX10_counted 34 = .ok (.if_icmp .ge 113, 3) := by decide +kernel
theorem dX10_counted_37 : decode cX10_counted 37 = .ok (.aload_n 0, 1) := by decide +kernel
theorem dX10_counted_38 : decode cX10_counted 38 = .ok (.getfield 48, 3) := by decide +kernel
theorem dX10_counted_41 : decode cX10_counted 41 = .ok (.iconst 4, 1) := by decide +kernel
theorem dX10_counted_42 : decode cX10_counted 42 = .ok (.iload_n 1, 1) := by decide +kernel
theorem dX10_counted_43 : decode cX10_counted 43 = .ok (.imul, 1) := by decide +kernel
theorem dX10_counted_44 : decode cX10_counted 44 = .ok (.iload_n 2, 1) := by decide +kernel
theorem dX10_counted_45 : decode cX10_counted 45 = .ok (.iadd, 1) := by decide +kernel
theorem dX10_counted_46 : decode cX10_counted 46 = .ok (.iaload, 1) := by decide +kernel
theorem dX10_counted_47 : decode cX10_counted 47 = .ok (.istore_n 3, 1) := by decide +kernel
theorem dX10_counted_48 : decode cX10_counted 48 = .ok (.iload_n 3, 1) := by decide +kernel
theorem dX10_counted_49 : decode cX10_counted 49 = .ok (.ifCond .lt 17, 3) := by decide +kernel
theorem dX10_counted_52 : decode cX10_counted 52 = .ok (.aload_n 0, 1) := by decide +kernel
theorem dX10_counted_53 : decode cX10_counted 53 = .ok (.iload_n 1, 1) := by decide +kernel
theorem dX10_counted_54 : decode cX10_counted 54 = .ok (.iload_n 3, 1) := by decide +kernel
theorem dX10_counted_55 : decode cX10_counted 55 = .ok (.invokevirtual 235, 3) := by decide +kernel
theorem dX10_counted_58 : decode cX10_counted 58 = .ok (.iconst 1, 1) := by decide +kernel
theorem dX10_counted_59 : decode cX10_counted 59 = .ok (.if_icmp .le 7, 3) := by decide +kernel
theorem dX10_counted_62 : decode cX10_counted 62 = .ok (.iconst 1, 1) := by decide +kernel
theorem dX10_counted_63 : decode cX10_counted 63 = .ok (.goto 4, 3) := by decide +kernel
theorem dX10_counted_66 : decode cX10_counted 66 = .ok (.iconst 0, 1) := by decide +kernel
theorem dX10_counted_67 : decode cX10_counted 67 = .ok (.istore 4, 2) := by decide +kernel
theorem dX10_counted_69 : decode cX10_counted 69 = .ok (.iconst 0, 1) := by decide +kernel
theorem dX10_counted_70 : decode cX10_counted 70 = .ok (.istore 5, 2) := by decide +kernel
theorem dX10_counted_72 : decode cX10_counted 72 = .ok (.iload 5, 2) := by decide +kernel
theorem dX10_counted_74 : decode cX10_counted 74 = .ok (.iconst 4, 1) := by decide +kernel
theorem dX10_counted_75 : decode cX10_counted 75 = .ok (.if_icmp .ge 59, 3) := by decide +kernel
theorem dX10_counted_78 : decode cX10_counted 78 = .ok (.aload_n 0, 1) := by decide +kernel
theorem dX10_counted_79 : decode cX10_counted 79 = .ok (.getfield 48, 3) := by decide +kernel
theorem dX10_counted_82 : decode cX10_counted 82 = .ok (.iconst 4, 1) := by decide +kernel
theorem dX10_counted_83 : decode cX10_counted 83 = .ok (.iload_n 1, 1) := by decide +kernel
theorem dX10_counted_84 : decode cX10_counted 84 = .ok (.imul, 1) := by decide +kernel
theorem dX10_counted_85 : decode cX10_counted 85 = .ok (.iload 5, 2) := by decide +kernel
theorem dX10_counted_87 : decode cX10_counted 87 = .ok (.iadd, 1) := by decide +kernel
theorem dX10_counted_88 : decode cX10_counted 88 = .ok (.iaload, 1) := by decide +kernel
theorem dX10_counted_89 : decode cX10_counted 89 = .ok (.istore 6, 2) := by decide +kernel
theorem dX10_counted_91 : decode cX10_counted 91 = .ok (.iload 4, 2) := by decide +kernel
theorem dX10_counted_93 : decode cX10_counted 93 = .ok (.iload 6, 2) := by decide +kernel
theorem dX10_counted_95 : decode cX10_counted 95 = .ok (.ifCond .lt 25, 3) := by decide +kernel
theorem dX10_counted_98 : decode cX10_counted 98 = .ok (.iload 6, 2) := by decide +kernel
theorem dX10_counted_100 : decode cX10_counted 100 = .ok (.iload_n 3, 1) := by decide +kernel
theorem dX10_counted_101 : decode cX10_counted 101 = .ok (.if_icmp .eq 19, 3) := by decide +kernel
theorem dX10_counted_104 : decode cX10_counted 104 = .ok (.aload_n 0, 1) := by decide +kernel
theorem dX10_counted_105 : decode cX10_counted 105 = .ok (.iload_n 1, 1) := by decide +kernel
theorem dX10_counted_106 : decode cX10_counted 106 = .ok (.iload 6, 2) := by decide +kernel
theorem dX10_counted_108 : decode cX10_counted 108 = .ok (.invokevirtual 235, 3) := by decide +kernel
theorem dX10_counted_111 : decode cX10_counted 111 = .ok (.aload_n 0, 1) := by decide +kernel
theorem dX10_counted_112 : decode cX10_counted 112 = .ok (.iload_n 1, 1) := by decide +kernel
theorem dX10_counted_113 : decode cX10_counted 113 = .ok (.iload_n 3, 1) := by decide +kernel
theorem dX10_counted_114 : decode cX10_counted 114 = .ok (.invokevirtual 235, 3) := by decide +kernel
theorem dX10_counted_117 : decode cX10_counted 117 = .ok (.if_icmp .ge 7, 3) := by decide +kernel
theorem dX10_counted_120 : decode cX10_counted 120 = .ok (.iconst 1, 1) := by decide +kernel
theorem dX10_counted_121 : decode cX10_counted 121 = .ok (.goto 4, 3) := by decide +kernel
theorem dX10_counted_124 : decode cX10_counted 124 = .ok (.iconst 0, 1) := by decide +kernel
theorem dX10_counted_125 : decode cX10_counted 125 = .ok (.iand, 1) := by decide +kernel
theorem dX10_counted_126 : decode cX10_counted 126 = .ok (.istore 4, 2) := by decide +kernel
theorem dX10_counted_128 : decode cX10_counted 128 = .ok (.iinc 5 1, 3) := by decide +kernel
theorem dX10_counted_131 : decode cX10_counted 131 = .ok (.goto (-59), 3) := by decide +kernel
theorem dX10_counted_134 : decode cX10_counted 134 = .ok (.iload 4, 2) := by decide +kernel
theorem dX10_counted_136 : decode cX10_counted 136 = .ok (.ifCond .eq 5, 3) := by decide +kernel
theorem dX10_counted_139 : decode cX10_counted 139 = .ok (.iload_n 3, 1) := by decide +kernel
theorem dX10_counted_140 : decode cX10_counted 140 = .ok (.ireturn, 1) := by decide +kernel
theorem dX10_counted_141 : decode cX10_counted 141 = .ok (.iinc 2 1, 3) := by decide +kernel
theorem dX10_counted_144 : decode cX10_counted 144 = .ok (.goto (-112), 3) := by decide +kernel
theorem dX10_counted_147 : decode cX10_counted 147 = .ok (.aload_n 0, 1) := by decide +kernel
theorem dX10_counted_148 : decode cX10_counted 148 = .ok (.iconst 2, 1) := by decide +kernel
theorem dX10_counted_149 : decode cX10_counted 149 = .ok (.invokevirtual 138, 3) := by decide +kernel
theorem dX10_counted_152 : decode cX10_counted 152 = .ok (.ireturn, 1) := by decide +kernel
theorem dX10_burst_0 : decode cX10_burst 0 = .ok (.aload_n 0, 1) := by decide +kernel
theorem dX10_burst_1 : decode cX10_burst 1 = .ok (.iload_n 1, 1) := by decide +kernel
theorem dX10_burst_2 : decode cX10_burst 2 = .ok (.invokevirtual 204, 3) := by decide +kernel
theorem dX10_burst_5 : decode cX10_burst 5 = .ok (.ifCond .eq 24, 3) := by decide +kernel
theorem dX10_burst_8 : decode cX10_burst 8 = .ok (.iload_n 2, 1) := by decide +kernel
theorem dX10_burst_9 : decode cX10_burst 9 = .ok (.iconst 1, 1) := by decide +kernel
theorem dX10_burst_10 : decode cX10_burst 10 = .ok (.ldc 207, 2) := by decide +kernel
theorem dX10_burst_12 : decode cX10_burst 12 = .ok (.invokestatic 131, 3) := by decide +kernel
theorem dX10_burst_15 : decode cX10_burst 15 = .ok (.ifCond .eq 14, 3) := by decide +kernel
theorem dX10_burst_18 : decode cX10_burst 18 = .ok (.iload_n 3, 1) := by decide +kernel
theorem dX10_burst_19 : decode cX10_burst 19 = .ok (.iconst 0, 1) := by decide +kernel
theorem dX10_burst_20 : decode cX10_burst 20 = .ok (.sipush 1000, 3) := by decide +kernel
theorem dX10_burst_23 : decode cX10_burst 23 = .ok (.invokestatic 131, 3) := by decide +kernel
theorem dX10_burst_26 : decode cX10_burst 26 = .ok (.ifCond .ne 9, 3) := by decide +kernel
theorem dX10_burst_29 : decode cX10_burst 29 = .ok (.aload_n 0, 1) := by decide +kernel
theorem dX10_burst_30 : decode cX10_burst 30 = .ok (.iconst 1, 1) := by decide +kernel
theorem dX10_burst_31 : decode cX10_burst 31 = .ok (.invokevirtual 138, 3) := by decide +kernel
theorem dX10_burst_34 : decode cX10_burst 34 = .ok (.ireturn, 1) := by decide +kernel
theorem dX10_burst_35 : decode cX10_burst 35 = .ok (.iconst 1, 1) := by decide +kernel
theorem dX10_burst_36 : decode cX10_burst 36 = .ok (.istore 4, 2) := by decide +kernel
theorem dX10_burst_38 : decode cX10_burst 38 = .ok (.iconst 0, 1) := by decide +kernel
theorem dX10_burst_39 : decode cX10_burst 39 = .ok (.istore 5, 2) := by decide +kernel
theorem dX10_burst_41 : decode cX10_burst 41 = .ok (.iload 5, 2) := by decide +kernel
theorem dX10_burst_43 : decode cX10_burst 43 = .ok (.aload_n 0, 1) := by decide +kernel
theorem dX10_burst_44 : decode cX10_burst 44 = .ok (.getfield 125, 3) := by decide +kernel
theorem dX10_burst_47 : decode cX10_burst 47 = .ok (.if_icmp .ge 38, 3) := by decide +kernel
theorem dX10_burst_50 : decode cX10_burst 50 = .ok (.iload 4, 2) := by decide +kernel
theorem dX10_burst_52 : decode cX10_burst 52 = .ok (.iload_n 1, 1) := by decide +kernel
theorem dX10_burst_53 : decode cX10_burst 53 = .ok (.iload 5, 2) := by decide +kernel
theorem dX10_burst_55 : decode cX10_burst 55 = .ok (.ishr, 1) := by decide +kernel
theorem dX10_burst_56 : decode cX10_burst 56 = .ok (.iconst 1, 1) := by decide +kernel
theorem dX10_burst_57 : decode cX10_burst 57 = .ok (.iand, 1) := by decide +kernel
theorem dX10_burst_58 : decode cX10_burst 58 = .ok (.ifCond .eq 13, 3) := by decide +kernel
theorem dX10_burst_61 : decode cX10_burst 61 = .ok (.aload_n 0, 1) := by decide +kernel
theorem dX10_burst_62 : decode cX10_burst 62 = .ok (.getfield 32, 3) := by decide +kernel
theorem dX10_burst_65 : decode cX10_burst 65 = .ok (.iload 5, 2) := by decide +kernel
theorem dX10_burst_67 : decode cX10_burst 67 = .ok (.iaload, 1) := by decide +kernel
theorem dX10_burst_68 : decode cX10_burst 68 = .ok (.ifCond .ne 7, 3) := by decide +kernel
theorem dX10_burst_71 : decode cX10_burst 71 = .ok (.iconst 1, 1) := by decide +kernel
theorem dX10_burst_72 : decode cX10_burst 72 = .ok (.goto 4, 3) := by decide +kernel
theorem dX10_burst_75 : decode cX10_burst 75 = .ok (.iconst 0, 1) := by decide +kernel
theorem dX10_burst_76 : decode cX10_burst 76 = .ok (.iand, 1) := by decide +kernel
theorem dX10_burst_77 : decode cX10_burst 77 = .ok (.istore 4, 2) := by decide +kernel
theorem dX10_burst_79 : decode cX10_burst 79 = .ok (.iinc 5 1, 3) := by decide +kernel
theorem dX10_burst_82 : decode cX10_burst 82 = .ok (.goto (-41), 3) := by decide +kernel
theorem dX10_burst_85 : decode cX10_burst 85 = .ok (.iload_n 1, 1) := by decide +kernel
theorem dX10_burst_86 : decode cX10_burst 86 = .ok (.invokestatic 208, 3) := by decide +kernel
theorem dX10_burst_89 : decode cX10_burst 89 = .ok (.bipush 14, 2) := by decide +kernel
theorem dX10_burst_91 : decode cX10_burst 91 = .ok (.if_icmp .gt 8, 3) := by decide +kernel
theorem dX10_burst_94 : decode cX10_burst 94 = .ok (.iload 4, 2) := by decide +kernel
theorem dX10_burst_96 : decode cX10_burst 96 = .ok (.ifCond .ne 9, 3) := by decide +kernel
theorem dX10_burst_99 : decode cX10_burst 99 = .ok (.aload_n 0, 1) := by decide +kernel
theorem dX10_burst_100 : decode cX10_burst 100 = .ok (.iconst 3, 1) := by decide +kernel
theorem dX10_burst_101 : decode cX10_burst 101 = .ok (.invokevirtual 138, 3) := by decide +kernel
theorem dX10_burst_104 : decode cX10_burst 104 = .ok (.ireturn, 1) := by decide +kernel
theorem dX10_burst_105 : decode cX10_burst 105 = .ok (.iconst 0, 1) := by decide +kernel
theorem dX10_burst_106 : decode cX10_burst 106 = .ok (.istore 5, 2) := by decide +kernel
theorem dX10_burst_108 : decode cX10_burst 108 = .ok (.iconst 0, 1) := by decide +kernel
theorem dX10_burst_109 : decode cX10_burst 109 = .ok (.istore 6, 2) := by decide +kernel
theorem dX10_burst_111 : decode cX10_burst 111 = .ok (.iload_n 1, 1) := by decide +kernel
theorem dX10_burst_112 : decode cX10_burst 112 = .ok (.ineg, 1) := by decide +kernel
theorem dX10_burst_113 : decode cX10_burst 113 = .ok (.iload_n 1, 1) := by decide +kernel
theorem dX10_burst_114 : decode cX10_burst 114 = .ok (.iand, 1) := by decide +kernel
theorem dX10_burst_115 : decode cX10_burst 115 = .ok (.istore 7, 2) := by decide +kernel
theorem dX10_burst_117 : decode cX10_burst 117 = .ok (.iload 7, 2) := by decide +kernel
theorem dX10_burst_119 : decode cX10_burst 119 = .ok (.ifCond .eq 127, 3) := by decide +kernel
theorem dX10_burst_122 : decode cX10_burst 122 = .ok (.iconst 0, 1) := by decide +kernel
theorem dX10_burst_123 : decode cX10_burst 123 = .ok (.istore 8, 2) := by decide +kernel
theorem dX10_burst_125 : decode cX10_burst 125 = .ok (.iconst 0, 1) := by decide +kernel
theorem dX10_burst_126 : decode cX10_burst 126 = .ok (.istore 9, 2) := by decide +kernel
theorem dX10_burst_128 : decode cX10_burst 128 = .ok (.iload 9, 2) := by decide +kernel
theorem dX10_burst_130 : decode cX10_burst 130 = .ok (.aload_n 0, 1) := by decide +kernel
theorem dX10_burst_131 : decode cX10_burst 131 = .ok (.getfield 125, 3) := by decide +kernel
theorem dX10_burst_134 : decode cX10_burst 134 = .ok (.if_icmp .ge 36, 3) := by decide +kernel
theorem dX10_burst_137 : decode cX10_burst 137 = .ok (.iload 8, 2) := by decide +kernel
theorem dX10_burst_139 : decode cX10_burst 139 = .ok (.iload 7, 2) := by decide +kernel
theorem dX10_burst_141 : decode cX10_burst 141 = .ok (.iload 9, 2) := by decide +kernel
theorem dX10_burst_143 : decode cX10_burst 143 = .ok (.ishr, 1) := by decide +kernel
theorem dX10_burst_144 : decode cX10_burst 144 = .ok (.iconst 1, 1) := by decide +kernel
theorem dX10_burst_145 : decode cX10_burst 145 = .ok (.iand, 1) := by decide +kernel
theorem dX10_burst_146 : decode cX10_burst 146 = .ok (.iconst 1, 1) := by decide +kernel
theorem dX10_burst_147 : decode cX10_burst 147 = .ok (.if_icmp .ne 13, 3) := by decide +kernel
theorem dX10_burst_150 : decode cX10_burst 150 = .ok (.aload_n 0, 1) := by decide +kernel
theorem dX10_burst_151 : decode cX10_burst 151 = .ok (.getfield 23, 3) := by decide +kernel
theorem dX10_burst_154 : decode cX10_burst 154 = .ok (.iload 9, 2) := by decide +kernel
theorem dX10_burst_156 : decode cX10_burst 156 = .ok (.iaload, 1) := by decide +kernel
theorem dX10_burst_157 : decode cX10_burst 157 = .ok (.goto 4, 3) := by decide +kernel
theorem dX10_burst_160 : decode cX10_burst 160 = .ok (.iconst 0, 1) := by decide +kernel
theorem dX10_burst_161 : decode cX10_burst 161 = .ok (.iadd, 1) := by decide +kernel
theorem dX10_burst_162 : decode cX10_burst 162 = .ok (.istore 8, 2) := by decide +kernel
theorem dX10_burst_164 : decode cX10_burst 164 = .ok (.iinc 9 1, 3) := by decide +kernel
theorem dX10_burst_167 : decode cX10_burst 167 = .ok (.goto (-39), 3) := by decide +kernel
theorem dX10_burst_170 : decode cX10_burst 170 = .ok (.iload 8, 2) := by decide +kernel
theorem dX10_burst_172 : decode cX10_burst 172 = .ok (.iload_n 2, 1) := by decide +kernel
theorem dX10_burst_173 : decode cX10_burst 173 = .ok (.if_icmp .ge 10, 3) := by decide +kernel
theorem dX10_burst_176 : decode cX10_burst 176 = .ok (.iload_n 2, 1) := by decide +kernel
theorem dX10_burst_177 : decode cX10_burst 177 = .ok (.iload 8, 2) := by decide +kernel
theorem dX10_burst_179 : decode cX10_burst 179 = .ok (.isub, 1) := by decide +kernel
theorem dX10_burst_180 : decode cX10_burst 180 = .ok (.goto 7, 3) := by decide +kernel
theorem dX10_burst_183 : decode cX10_burst 183 = .ok (.iload 8, 2) := by decide +kernel
theorem dX10_burst_185 : decode cX10_burst 185 = .ok (.iload_n 2, 1) := by decide +kernel
theorem dX10_burst_186 : decode cX10_burst 186 = .ok (.isub, 1) := by decide +kernel
theorem dX10_burst_187 : decode cX10_burst 187 = .ok (.istore 9, 2) := by decide +kernel
theorem dX10_burst_189 : decode cX10_burst 189 = .ok (.iload 9, 2) := by decide +kernel
theorem dX10_burst_191 : decode cX10_burst 191 = .ok (.iload_n 3, 1) := by decide +kernel
theorem dX10_burst_192 : decode cX10_burst 192 = .ok (.if_icmp .gt 43, 3) := by decide +kernel
theorem dX10_burst_195 : decode cX10_burst 195 = .ok (.iload 5, 2) := by decide +kernel
theorem dX10_burst_197 : decode cX10_burst 197 = .ok (.ifCond .eq 30, 3) := by decide +kernel
theorem dX10_burst_200 : decode cX10_burst 200 = .ok (.iload 9, 2) := by decide +kernel
theorem dX10_burst_202 : decode cX10_burst 202 = .ok (.iload 6, 2) := by decide +kernel
theorem dX10_burst_204 : decode cX10_burst 204 = .ok (.if_icmp .lt 23, 3) := by decide +kernel
theorem dX10_burst_207 : decode cX10_burst 207 = .ok (.iload 9, 2) := by decide +kernel
theorem dX10_burst_209 : decode cX10_burst 209 = .ok (.iload 6, 2) := by decide +kernel
theorem dX10_burst_211 : decode cX10_burst 211 = .ok (.if_icmp .ne 24, 3) := by decide +kernel
theorem dX10_burst_214 : decode cX10_burst 214 = .ok (.iload 7, 2) := by decide +kernel
theorem dX10_burst_216 : decode cX10_burst 216 = .ok (.invokestatic 208, 3) := by decide +kernel
theorem dX10_burst_219 : decode cX10_burst 219 = .ok (.iload 5, 2) := by decide +kernel
theorem dX10_burst_221 : decode cX10_burst 221 = .ok (.invokestatic 208, 3) := by decide +kernel
theorem dX10_burst_224 : decode cX10_burst 224 = .ok (.if_icmp .ge 11, 3) := by decide +kernel
theorem dX10_burst_227 : decode cX10_burst 227 = .ok (.iload 7, 2) := by decide +kernel
theorem dX10_burst_229 : decode cX10_burst 229 = .ok (.istore 5, 2) := by decide +kernel
theorem dX10_burst_231 : decode cX10_burst 231 = .ok (.iload 9, 2) := by decide +kernel
theorem dX10_burst_233 : decode cX10_burst 233 = .ok (.istore 6, 2) := by decide +kernel
theorem dX10_burst_235 : decode cX10_burst 235 = .ok (.iload 7, 2) := by decide +kernel
theorem dX10_burst_237 : decode cX10_burst 237 = .ok (.iload_n 1, 1) := by decide +kernel
theorem dX10_burst_238 : decode cX10_burst 238 = .ok (.isub, 1) := by decide +kernel
theorem dX10_burst_239 : decode cX10_burst 239 = .ok (.iload_n 1, 1) := by decide +kernel
theorem dX10_burst_240 : decode cX10_burst 240 = .ok (.iand, 1) := by decide +kernel
theorem dX10_burst_241 : decode cX10_burst 241 = .ok (.istore 7, 2) := by decide +kernel
theorem dX10_burst_243 : decode cX10_burst 243 = .ok (.goto (-126), 3) := by decide +kernel
theorem dX10_burst_246 : decode cX10_burst 246 = .ok (.iload 5, 2) := by decide +kernel
theorem dX10_burst_248 : decode cX10_burst 248 = .ok (.ifCond .ne 11, 3) := by decide +kernel
theorem dX10_burst_251 : decode cX10_burst 251 = .ok (.aload_n 0, 1) := by decide +kernel
theorem dX10_burst_252 : decode cX10_burst 252 = .ok (.iconst 2, 1) := by decide +kernel
theorem dX10_burst_253 : decode cX10_burst 253 = .ok (.invokevirtual 138, 3) := by decide +kernel
theorem dX10_burst_256 : decode cX10_burst 256 = .ok (.goto 5, 3) := by decide +kernel
theorem dX10_burst_259 : decode cX10_burst 259 = .ok (.iload 5, 2) := by decide +kernel
theorem dX10_burst_261 : decode cX10_burst 261 = .ok (.ireturn, 1) := by decide +kernel
theorem dX10_tell_0 : decode cX10_tell 0 = .ok (.aload_n 0, 1) := by decide +kernel
theorem dX10_tell_1 : decode cX10_tell 1 = .ok (.getfield 238, 3) := by decide +kernel
theorem dX10_tell_4 : decode cX10_tell 4 = .ok (.bipush 20, 2) := by decide +kernel
theorem dX10_tell_6 : decode cX10_tell 6 = .ok (.if_icmp .ne 9, 3) := by decide +kernel
theorem dX10_tell_9 : decode cX10_tell 9 = .ok (.aload_n 0, 1) := by decide +kernel
theorem dX10_tell_10 : decode cX10_tell 10 = .ok (.iconst 4, 1) := by decide +kernel
theorem dX10_tell_11 : decode cX10_tell 11 = .ok (.invokevirtual 138, 3) := by decide +kernel
theorem dX10_tell_14 : decode cX10_tell 14 = .ok (.ireturn, 1) := by decide +kernel
theorem dX10_tell_15 : decode cX10_tell 15 = .ok (.aload_n 0, 1) := by decide +kernel
theorem dX10_tell_16 : decode cX10_tell 16 = .ok (.getfield 90, 3) := by decide +kernel
theorem dX10_tell_19 : decode cX10_tell 19 = .ok (.aload_n 0, 1) := by decide +kernel
theorem dX10_tell_20 : decode cX10_tell 20 = .ok (.getfield 238, 3) := by decide +kernel
theorem dX10_tell_23 : decode cX10_tell 23 = .ok (.iload_n 1, 1) := by decide +kernel
theorem dX10_tell_24 : decode cX10_tell 24 = .ok (.iastore, 1) := by decide +kernel
theorem dX10_tell_25 : decode cX10_tell 25 = .ok (.aload_n 0, 1) := by decide +kernel
theorem dX10_tell_26 : decode cX10_tell 26 = .ok (.dup, 1) := by decide +kernel
theorem dX10_tell_27 : decode cX10_tell 27 = .ok (.getfield 238, 3) := by decide +kernel
theorem dX10_tell_30 : decode cX10_tell 30 = .ok (.iconst 1, 1) := by decide +kernel
theorem dX10_tell_31 : decode cX10_tell 31 = .ok (.iadd, 1) := by decide +kernel
theorem dX10_tell_32 : decode cX10_tell 32 = .ok (.putfield 238, 3) := by decide +kernel
theorem dX10_tell_35 : decode cX10_tell 35 = .ok (.aload_n 0, 1) := by decide +kernel
theorem dX10_tell_36 : decode cX10_tell 36 = .ok (.getfield 238, 3) := by decide +kernel
theorem dX10_tell_39 : decode cX10_tell 39 = .ok (.ireturn, 1) := by decide +kernel
theorem dX10_check_0 : decode cX10_check 0 = .ok (.aload_n 0, 1) := by decide +kernel
theorem dX10_check_1 : decode cX10_check 1 = .ok (.getfield 238, 3) := by decide +kernel
theorem dX10_check_4 : decode cX10_check 4 = .ok (.istore_n 1, 1) := by decide +kernel
theorem dX10_check_5 : decode cX10_check 5 = .ok (.aload_n 0, 1) := by decide +kernel
theorem dX10_check_6 : decode cX10_check 6 = .ok (.iconst 0, 1) := by decide +kernel
theorem dX10_check_7 : decode cX10_check 7 = .ok (.putfield 238, 3) := by decide +kernel
theorem dX10_check_10 : decode cX10_check 10 = .ok (.aload_n 0, 1) := by decide +kernel
theorem dX10_check_11 : decode cX10_check 11 = .ok (.invokevirtual 166, 3) := by decide +kernel
theorem dX10_check_14 : decode cX10_check 14 = .ok (.istore_n 2, 1) := by decide +kernel
theorem dX10_check_15 : decode cX10_check 15 = .ok (.iconst 0, 1) := by decide +kernel
theorem dX10_check_16 : decode cX10_check 16 = .ok (.istore_n 3, 1) := by decide +kernel
theorem dX10_check_17 : decode cX10_check 17 = .ok (.iload_n 3, 1) := by decide +kernel
theorem dX10_check_18 : decode cX10_check 18 = .ok (.iload_n 1, 1) := by decide +kernel
theorem dX10_check_19 : decode cX10_check 19 = .ok (.if_icmp .ge 36, 3) := by decide +kernel
theorem dX10_check_22 : decode cX10_check 22 = .ok (.iload_n 3, 1) := by decide +kernel
theorem dX10_check_23 : decode cX10_check 23 = .ok (.aload_n 0, 1) := by decide +kernel
theorem dX10_check_24 : decode cX10_check 24 = .ok (.getfield 128, 3) := by decide +kernel
theorem dX10_check_27 : decode cX10_check 27 = .ok (.if_icmp .ge 18, 3) := by decide +kernel
theorem dX10_check_30 : decode cX10_check 30 = .ok (.aload_n 0, 1) := by decide +kernel
theorem dX10_check_31 : decode cX10_check 31 = .ok (.getfield 90, 3) := by decide +kernel
theorem dX10_check_34 : decode cX10_check 34 = .ok (.iload_n 3, 1) := by decide +kernel
theorem dX10_check_35 : decode cX10_check 35 = .ok (.iaload, 1) := by decide +kernel
theorem dX10_check_36 : decode cX10_check 36 = .ok (.aload_n 0, 1) := by decide +kernel
theorem dX10_check_37 : decode cX10_check 37 = .ok (.getfield 96, 3) := by decide +kernel
theorem dX10_check_40 : decode cX10_check 40 = .ok (.iload_n 3, 1) := by decide +kernel
theorem dX10_check_41 : decode cX10_check 41 = .ok (.iaload, 1) := by decide +kernel
theorem dX10_check_42 : decode cX10_check 42 = .ok (.if_icmp .eq 7, 3) := by decide +kernel
theorem dX10_check_45 : decode cX10_check 45 = .ok (.iconst 1, 1) := by decide +kernel
theorem dX10_check_46 : decode cX10_check 46 = .ok (.iload_n 3, 1) := by decide +kernel
theorem dX10_check_47 : decode cX10_check 47 = .ok (.iadd, 1) := by decide +kernel
theorem dX10_check_48 : decode cX10_check 48 = .ok (.ireturn, 1) := by decide +kernel
theorem dX10_check_49 : decode cX10_check 49 = .ok (.iinc 3 1, 3) := by decide +kernel
theorem dX10_check_52 : decode cX10_check 52 = .ok (.goto (-35), 3) := by decide +kernel
theorem dX10_check_55 : decode cX10_check 55 = .ok (.iconst 0, 1) := by decide +kernel
theorem dX10_check_56 : decode cX10_check 56 = .ok (.ireturn, 1) := by decide +kernel
theorem dX10_count_0 : decode cX10_count 0 = .ok (.iconst 0, 1) := by decide +kernel
theorem dX10_count_1 : decode cX10_count 1 = .ok (.istore_n 2, 1) := by decide +kernel
theorem dX10_count_2 : decode cX10_count 2 = .ok (.iload_n 1, 1) := by decide +kernel
theorem dX10_count_3 : decode cX10_count 3 = .ok (.tableswitch 130 0 10 #[57, 62, 62, 62, 62, 100, 105, 110, 115, 120, 125], 57) := by decide +kernel
theorem dX10_count_60 : decode cX10_count 60 = .ok (.aload_n 0, 1) := by decide +kernel
theorem dX10_count_61 : decode cX10_count 61 = .ok (.getfield 125, 3) := by decide +kernel
theorem dX10_count_64 : decode cX10_count 64 = .ok (.ireturn, 1) := by decide +kernel
theorem dX10_count_65 : decode cX10_count 65 = .ok (.iconst 0, 1) := by decide +kernel
theorem dX10_count_66 : decode cX10_count 66 = .ok (.istore_n 3, 1) := by decide +kernel
theorem dX10_count_67 : decode cX10_count 67 = .ok (.iload_n 3, 1) := by decide +kernel
theorem dX10_count_68 : decode cX10_count 68 = .ok (.aload_n 0, 1) := by decide +kernel
theorem dX10_count_69 : decode cX10_count 69 = .ok (.getfield 125, 3) := by decide +kernel
theorem dX10_count_72 : decode cX10_count 72 = .ok (.if_icmp .ge 29, 3) := by decide +kernel
theorem dX10_count_75 : decode cX10_count 75 = .ok (.iload_n 2, 1) := by decide +kernel
theorem dX10_count_76 : decode cX10_count 76 = .ok (.aload_n 0, 1) := by decide +kernel
theorem dX10_count_77 : decode cX10_count 77 = .ok (.getfield 32, 3) := by decide +kernel
theorem dX10_count_80 : decode cX10_count 80 = .ok (.iload_n 3, 1) := by decide +kernel
theorem dX10_count_81 : decode cX10_count 81 = .ok (.iaload, 1) := by decide +kernel
theorem dX10_count_82 : decode cX10_count 82 = .ok (.iload_n 1, 1) := by decide +kernel
theorem dX10_count_83 : decode cX10_count 83 = .ok (.iconst 1, 1) := by decide +kernel
theorem dX10_count_84 : decode cX10_count 84 = .ok (.isub, 1) := by decide +kernel
theorem dX10_count_85 : decode cX10_count 85 = .ok (.if_icmp .ne 7, 3) := by decide +kernel
theorem dX10_count_88 : decode cX10_count 88 = .ok (.iconst 1, 1) := by decide +kernel
theorem dX10_count_89 : decode cX10_count 89 = .ok (.goto 4, 3) := by decide +kernel
theorem dX10_count_92 : decode cX10_count 92 = .ok (.iconst 0, 1) := by decide +kernel
theorem dX10_count_93 : decode cX10_count 93 = .ok (.iadd, 1) := by decide +kernel
theorem dX10_count_94 : decode cX10_count 94 = .ok (.istore_n 2, 1) := by decide +kernel
theorem dX10_count_95 : decode cX10_count 95 = .ok (.iinc 3 1, 3) := by decide +kernel
theorem dX10_count_98 : decode cX10_count 98 = .ok (.goto (-31), 3) := by decide +kernel
theorem dX10_count_101 : decode cX10_count 101 = .ok (.iload_n 2, 1) := by decide +kernel
theorem dX10_count_102 : decode cX10_count 102 = .ok (.ireturn, 1) := by decide +kernel
theorem dX10_count_103 : decode cX10_count 103 = .ok (.aload_n 0, 1) := by decide +kernel
theorem dX10_count_104 : decode cX10_count 104 = .ok (.getfield 128, 3) := by decide +kernel
theorem dX10_count_107 : decode cX10_count 107 = .ok (.ireturn, 1) := by decide +kernel
theorem dX10_count_108 : decode cX10_count 108 = .ok (.aload_n 0, 1) := by decide +kernel
theorem dX10_count_109 : decode cX10_count 109 = .ok (.getfield 181, 3) := by decide +kernel
theorem dX10_count_112 : decode cX10_count 112 = .ok (.ireturn, 1) := by decide +kernel
theorem dX10_count_113 : decode cX10_count 113 = .ok (.aload_n 0, 1) := by decide +kernel
theorem dX10_count_114 : decode cX10_count 114 = .ok (.getfield 121, 3) := by decide +kernel
theorem dX10_count_117 : decode cX10_count 117 = .ok (.ireturn, 1) := by decide +kernel
theorem dX10_count_118 : decode cX10_count 118 = .ok (.aload_n 0, 1) := by decide +kernel
theorem dX10_count_119 : decode cX10_count 119 = .ok (.getfield 227, 3) := by decide +kernel
theorem dX10_count_122 : decode cX10_count 122 = .ok (.ireturn, 1) := by decide +kernel
theorem dX10_count_123 : decode cX10_count 123 = .ok (.aload_n 0, 1) := by decide +kernel
theorem dX10_count_124 : decode cX10_count 124 = .ok (.getfield 238, 3) := by decide +kernel
theorem dX10_count_127 : decode cX10_count 127 = .ok (.ireturn, 1) := by decide +kernel
theorem dX10_count_128 : decode cX10_count 128 = .ok (.aload_n 0, 1) := by decide +kernel
theorem dX10_count_129 : decode cX10_count 129 = .ok (.getfield 211, 3) := by decide +kernel
theorem dX10_count_132 : decode cX10_count 132 = .ok (.ireturn, 1) := by decide +kernel
theorem dX10_count_133 : decode cX10_count 133 = .ok (.aload_n 0, 1) := by decide +kernel
theorem dX10_count_134 : decode cX10_count 134 = .ok (.iconst 1, 1) := by decide +kernel
theorem dX10_count_135 : decode cX10_count 135 = .ok (.invokevirtual 138, 3) := by decide +kernel
theorem dX10_count_138 : decode cX10_count 138 = .ok (.ireturn, 1) := by decide +kernel
theorem dX10_found_0 : decode cX10_found 0 = .ok (.iload_n 1, 1) := by decide +kernel
theorem dX10_found_1 : decode cX10_found 1 = .ok (.iconst 1, 1) := by decide +kernel
theorem dX10_found_2 : decode cX10_found 2 = .ok (.iconst 5, 1) := by decide +kernel
theorem dX10_found_3 : decode cX10_found 3 = .ok (.invokestatic 131, 3) := by decide +kernel
theorem dX10_found_6 : decode cX10_found 6 = .ok (.ifCond .eq 12, 3) := by decide +kernel
theorem dX10_found_9 : decode cX10_found 9 = .ok (.aload_n 0, 1) := by decide +kernel
theorem dX10_found_10 : decode cX10_found 10 = .ok (.getfield 93, 3) := by decide +kernel
theorem dX10_found_13 : decode cX10_found 13 = .ok (.iload_n 1, 1) := by decide +kernel
theorem dX10_found_14 : decode cX10_found 14 = .ok (.iaload, 1) := by decide +kernel
theorem dX10_found_15 : decode cX10_found 15 = .ok (.goto 8, 3) := by decide +kernel
theorem dX10_found_18 : decode cX10_found 18 = .ok (.aload_n 0, 1) := by decide +kernel
theorem dX10_found_19 : decode cX10_found 19 = .ok (.iconst 1, 1) := by decide +kernel
theorem dX10_found_20 : decode cX10_found 20 = .ok (.invokevirtual 138, 3) := by decide +kernel
theorem dX10_found_23 : decode cX10_found 23 = .ok (.ireturn, 1) := by decide +kernel
