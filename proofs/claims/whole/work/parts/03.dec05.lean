/-! decode rows, by program -/
theorem d_MD_need_136 : decode M_MD_need.2.1 136 = .ok (.goto 4, 3) := by decide +kernel
theorem d_MD_need_139 : decode M_MD_need.2.1 139 = .ok (.iconst 0, 1) := by decide +kernel
theorem d_MD_need_140 : decode M_MD_need.2.1 140 = .ok (.istore 7, 2) := by decide +kernel
theorem d_MD_need_142 : decode M_MD_need.2.1 142 = .ok (.iinc 8 1, 3) := by decide +kernel
theorem d_MD_need_145 : decode M_MD_need.2.1 145 = .ok (.goto (-120), 3) := by decide +kernel
theorem d_MD_need_148 : decode M_MD_need.2.1 148 = .ok (.aload_n 0, 1) := by decide +kernel
theorem d_MD_need_149 : decode M_MD_need.2.1 149 = .ok (.getfield 46, 3) := by decide +kernel
theorem d_MD_need_152 : decode M_MD_need.2.1 152 = .ok (.iload 4, 2) := by decide +kernel
theorem d_MD_need_154 : decode M_MD_need.2.1 154 = .ok (.iaload, 1) := by decide +kernel
theorem d_MD_need_155 : decode M_MD_need.2.1 155 = .ok (.ifCond .ge 7, 3) := by decide +kernel
theorem d_MD_need_158 : decode M_MD_need.2.1 158 = .ok (.iconst 1, 1) := by decide +kernel
theorem d_MD_need_159 : decode M_MD_need.2.1 159 = .ok (.goto 4, 3) := by decide +kernel
theorem d_MD_need_162 : decode M_MD_need.2.1 162 = .ok (.iconst 0, 1) := by decide +kernel
theorem d_MD_need_163 : decode M_MD_need.2.1 163 = .ok (.istore 8, 2) := by decide +kernel
theorem d_MD_need_165 : decode M_MD_need.2.1 165 = .ok (.iload 6, 2) := by decide +kernel
theorem d_MD_need_167 : decode M_MD_need.2.1 167 = .ok (.ifCond .eq 37, 3) := by decide +kernel
theorem d_MD_need_170 : decode M_MD_need.2.1 170 = .ok (.aload_n 0, 1) := by decide +kernel
theorem d_MD_need_171 : decode M_MD_need.2.1 171 = .ok (.getfield 49, 3) := by decide +kernel
theorem d_MD_need_174 : decode M_MD_need.2.1 174 = .ok (.iload 4, 2) := by decide +kernel
theorem d_MD_need_176 : decode M_MD_need.2.1 176 = .ok (.iload 8, 2) := by decide +kernel
theorem d_MD_need_178 : decode M_MD_need.2.1 178 = .ok (.ifCond .eq 12, 3) := by decide +kernel
theorem d_MD_need_181 : decode M_MD_need.2.1 181 = .ok (.iload 7, 2) := by decide +kernel
theorem d_MD_need_183 : decode M_MD_need.2.1 183 = .ok (.ifCond .eq 7, 3) := by decide +kernel
theorem d_MD_need_186 : decode M_MD_need.2.1 186 = .ok (.iconst 1, 1) := by decide +kernel
theorem d_MD_need_187 : decode M_MD_need.2.1 187 = .ok (.goto 4, 3) := by decide +kernel
theorem d_MD_need_190 : decode M_MD_need.2.1 190 = .ok (.iconst 0, 1) := by decide +kernel
theorem d_MD_need_191 : decode M_MD_need.2.1 191 = .ok (.iastore, 1) := by decide +kernel
theorem d_MD_need_192 : decode M_MD_need.2.1 192 = .ok (.aload_n 0, 1) := by decide +kernel
theorem d_MD_need_193 : decode M_MD_need.2.1 193 = .ok (.getfield 62, 3) := by decide +kernel
theorem d_MD_need_196 : decode M_MD_need.2.1 196 = .ok (.iload 5, 2) := by decide +kernel
theorem d_MD_need_198 : decode M_MD_need.2.1 198 = .ok (.bipush 99, 2) := by decide +kernel
theorem d_MD_need_200 : decode M_MD_need.2.1 200 = .ok (.iastore, 1) := by decide +kernel
theorem d_MD_need_201 : decode M_MD_need.2.1 201 = .ok (.goto 56, 3) := by decide +kernel
theorem d_MD_need_204 : decode M_MD_need.2.1 204 = .ok (.iload 8, 2) := by decide +kernel
theorem d_MD_need_206 : decode M_MD_need.2.1 206 = .ok (.ifCond .eq 51, 3) := by decide +kernel
theorem d_MD_need_209 : decode M_MD_need.2.1 209 = .ok (.aload_n 0, 1) := by decide +kernel
theorem d_MD_need_210 : decode M_MD_need.2.1 210 = .ok (.getfield 62, 3) := by decide +kernel
theorem d_MD_need_213 : decode M_MD_need.2.1 213 = .ok (.iload 5, 2) := by decide +kernel
theorem d_MD_need_215 : decode M_MD_need.2.1 215 = .ok (.aload_n 0, 1) := by decide +kernel
theorem d_MD_need_216 : decode M_MD_need.2.1 216 = .ok (.getfield 13, 3) := by decide +kernel
theorem d_MD_need_219 : decode M_MD_need.2.1 219 = .ok (.iload 4, 2) := by decide +kernel
theorem d_MD_need_221 : decode M_MD_need.2.1 221 = .ok (.iaload, 1) := by decide +kernel
theorem d_MD_need_222 : decode M_MD_need.2.1 222 = .ok (.iastore, 1) := by decide +kernel
theorem d_MD_need_223 : decode M_MD_need.2.1 223 = .ok (.aload_n 0, 1) := by decide +kernel
theorem d_MD_need_224 : decode M_MD_need.2.1 224 = .ok (.getfield 49, 3) := by decide +kernel
theorem d_MD_need_227 : decode M_MD_need.2.1 227 = .ok (.iload 4, 2) := by decide +kernel
theorem d_MD_need_229 : decode M_MD_need.2.1 229 = .ok (.iload 7, 2) := by decide +kernel
theorem d_MD_need_231 : decode M_MD_need.2.1 231 = .ok (.ifCond .eq 24, 3) := by decide +kernel
theorem d_MD_need_234 : decode M_MD_need.2.1 234 = .ok (.aload_n 0, 1) := by decide +kernel
theorem d_MD_need_235 : decode M_MD_need.2.1 235 = .ok (.getfield 56, 3) := by decide +kernel
theorem d_MD_need_238 : decode M_MD_need.2.1 238 = .ok (.iload 5, 2) := by decide +kernel
theorem d_MD_need_240 : decode M_MD_need.2.1 240 = .ok (.iaload, 1) := by decide +kernel
theorem d_MD_need_241 : decode M_MD_need.2.1 241 = .ok (.aload_n 0, 1) := by decide +kernel
theorem d_MD_need_242 : decode M_MD_need.2.1 242 = .ok (.getfield 13, 3) := by decide +kernel
theorem d_MD_need_245 : decode M_MD_need.2.1 245 = .ok (.iload 4, 2) := by decide +kernel
theorem d_MD_need_247 : decode M_MD_need.2.1 247 = .ok (.iaload, 1) := by decide +kernel
theorem d_MD_need_248 : decode M_MD_need.2.1 248 = .ok (.if_icmp .eq 7, 3) := by decide +kernel
theorem d_MD_need_251 : decode M_MD_need.2.1 251 = .ok (.iconst 1, 1) := by decide +kernel
theorem d_MD_need_252 : decode M_MD_need.2.1 252 = .ok (.goto 4, 3) := by decide +kernel
theorem d_MD_need_255 : decode M_MD_need.2.1 255 = .ok (.iconst 0, 1) := by decide +kernel
theorem d_MD_need_256 : decode M_MD_need.2.1 256 = .ok (.iastore, 1) := by decide +kernel
theorem d_MD_need_257 : decode M_MD_need.2.1 257 = .ok (.aload_n 0, 1) := by decide +kernel
theorem d_MD_need_258 : decode M_MD_need.2.1 258 = .ok (.getfield 52, 3) := by decide +kernel
theorem d_MD_need_261 : decode M_MD_need.2.1 261 = .ok (.iload 4, 2) := by decide +kernel
theorem d_MD_need_263 : decode M_MD_need.2.1 263 = .ok (.aload_n 0, 1) := by decide +kernel
theorem d_MD_need_264 : decode M_MD_need.2.1 264 = .ok (.getfield 49, 3) := by decide +kernel
theorem d_MD_need_267 : decode M_MD_need.2.1 267 = .ok (.iload 4, 2) := by decide +kernel
theorem d_MD_need_269 : decode M_MD_need.2.1 269 = .ok (.iaload, 1) := by decide +kernel
theorem d_MD_need_270 : decode M_MD_need.2.1 270 = .ok (.iconst 1, 1) := by decide +kernel
theorem d_MD_need_271 : decode M_MD_need.2.1 271 = .ok (.if_icmp .ne 59, 3) := by decide +kernel
theorem d_MD_need_274 : decode M_MD_need.2.1 274 = .ok (.aload_n 0, 1) := by decide +kernel
theorem d_MD_need_275 : decode M_MD_need.2.1 275 = .ok (.getfield 40, 3) := by decide +kernel
theorem d_MD_need_278 : decode M_MD_need.2.1 278 = .ok (.iconst 3, 1) := by decide +kernel
theorem d_MD_need_279 : decode M_MD_need.2.1 279 = .ok (.iaload, 1) := by decide +kernel
theorem d_MD_need_280 : decode M_MD_need.2.1 280 = .ok (.iconst 1, 1) := by decide +kernel
theorem d_MD_need_281 : decode M_MD_need.2.1 281 = .ok (.if_icmp .ne 49, 3) := by decide +kernel
theorem d_MD_need_284 : decode M_MD_need.2.1 284 = .ok (.aload_n 0, 1) := by decide +kernel
theorem d_MD_need_285 : decode M_MD_need.2.1 285 = .ok (.getfield 13, 3) := by decide +kernel
theorem d_MD_need_288 : decode M_MD_need.2.1 288 = .ok (.iload 4, 2) := by decide +kernel
theorem d_MD_need_290 : decode M_MD_need.2.1 290 = .ok (.iaload, 1) := by decide +kernel
theorem d_MD_need_291 : decode M_MD_need.2.1 291 = .ok (.iconst 2, 1) := by decide +kernel
theorem d_MD_need_292 : decode M_MD_need.2.1 292 = .ok (.if_icmp .eq 15, 3) := by decide +kernel
theorem d_MD_need_295 : decode M_MD_need.2.1 295 = .ok (.aload_n 0, 1) := by decide +kernel
theorem d_MD_need_296 : decode M_MD_need.2.1 296 = .ok (.getfield 13, 3) := by decide +kernel
theorem d_MD_need_299 : decode M_MD_need.2.1 299 = .ok (.iload 4, 2) := by decide +kernel
theorem d_MD_need_301 : decode M_MD_need.2.1 301 = .ok (.iaload, 1) := by decide +kernel
theorem d_MD_need_302 : decode M_MD_need.2.1 302 = .ok (.bipush (-2), 2) := by decide +kernel
theorem d_MD_need_304 : decode M_MD_need.2.1 304 = .ok (.if_icmp .ne 26, 3) := by decide +kernel
theorem d_MD_need_307 : decode M_MD_need.2.1 307 = .ok (.aload_n 0, 1) := by decide +kernel
theorem d_MD_need_308 : decode M_MD_need.2.1 308 = .ok (.getfield 56, 3) := by decide +kernel
theorem d_MD_need_311 : decode M_MD_need.2.1 311 = .ok (.iload 5, 2) := by decide +kernel
theorem d_MD_need_313 : decode M_MD_need.2.1 313 = .ok (.iaload, 1) := by decide +kernel
theorem d_MD_need_314 : decode M_MD_need.2.1 314 = .ok (.iconst 2, 1) := by decide +kernel
theorem d_MD_need_315 : decode M_MD_need.2.1 315 = .ok (.aload_n 0, 1) := by decide +kernel
theorem d_MD_need_316 : decode M_MD_need.2.1 316 = .ok (.getfield 13, 3) := by decide +kernel
theorem d_MD_need_319 : decode M_MD_need.2.1 319 = .ok (.iload 4, 2) := by decide +kernel
theorem d_MD_need_321 : decode M_MD_need.2.1 321 = .ok (.iaload, 1) := by decide +kernel
theorem d_MD_need_322 : decode M_MD_need.2.1 322 = .ok (.imul, 1) := by decide +kernel
theorem d_MD_need_323 : decode M_MD_need.2.1 323 = .ok (.if_icmp .ne 7, 3) := by decide +kernel
theorem d_MD_need_326 : decode M_MD_need.2.1 326 = .ok (.iconst 1, 1) := by decide +kernel
theorem d_MD_need_327 : decode M_MD_need.2.1 327 = .ok (.goto 4, 3) := by decide +kernel
theorem d_MD_need_330 : decode M_MD_need.2.1 330 = .ok (.iconst 0, 1) := by decide +kernel
theorem d_MD_need_331 : decode M_MD_need.2.1 331 = .ok (.bastore, 1) := by decide +kernel
theorem d_MD_need_332 : decode M_MD_need.2.1 332 = .ok (.return_, 1) := by decide +kernel
theorem d_MD_court_0 : decode M_MD_court.2.1 0 = .ok (.aload_n 0, 1) := by decide +kernel
theorem d_MD_court_1 : decode M_MD_court.2.1 1 = .ok (.getfield 43, 3) := by decide +kernel
theorem d_MD_court_4 : decode M_MD_court.2.1 4 = .ok (.iload_n 1, 1) := by decide +kernel
theorem d_MD_court_5 : decode M_MD_court.2.1 5 = .ok (.iaload, 1) := by decide +kernel
theorem d_MD_court_6 : decode M_MD_court.2.1 6 = .ok (.istore_n 3, 1) := by decide +kernel
theorem d_MD_court_7 : decode M_MD_court.2.1 7 = .ok (.aload_n 0, 1) := by decide +kernel
theorem d_MD_court_8 : decode M_MD_court.2.1 8 = .ok (.iload_n 3, 1) := by decide +kernel
theorem d_MD_court_9 : decode M_MD_court.2.1 9 = .ok (.invokevirtual 142, 3) := by decide +kernel
theorem d_MD_court_12 : decode M_MD_court.2.1 12 = .ok (.istore 4, 2) := by decide +kernel
theorem d_MD_court_14 : decode M_MD_court.2.1 14 = .ok (.aload_n 0, 1) := by decide +kernel
theorem d_MD_court_15 : decode M_MD_court.2.1 15 = .ok (.getfield 46, 3) := by decide +kernel
theorem d_MD_court_18 : decode M_MD_court.2.1 18 = .ok (.iload_n 3, 1) := by decide +kernel
theorem d_MD_court_19 : decode M_MD_court.2.1 19 = .ok (.iaload, 1) := by decide +kernel
theorem d_MD_court_20 : decode M_MD_court.2.1 20 = .ok (.ifCond .ge 22, 3) := by decide +kernel
theorem d_MD_court_23 : decode M_MD_court.2.1 23 = .ok (.aload_n 0, 1) := by decide +kernel
theorem d_MD_court_24 : decode M_MD_court.2.1 24 = .ok (.getfield 49, 3) := by decide +kernel
theorem d_MD_court_27 : decode M_MD_court.2.1 27 = .ok (.iload_n 3, 1) := by decide +kernel
theorem d_MD_court_28 : decode M_MD_court.2.1 28 = .ok (.iaload, 1) := by decide +kernel
theorem d_MD_court_29 : decode M_MD_court.2.1 29 = .ok (.ifCond .ne 13, 3) := by decide +kernel
theorem d_MD_court_32 : decode M_MD_court.2.1 32 = .ok (.aload_n 0, 1) := by decide +kernel
theorem d_MD_court_33 : decode M_MD_court.2.1 33 = .ok (.getfield 68, 3) := by decide +kernel
theorem d_MD_court_36 : decode M_MD_court.2.1 36 = .ok (.iload 4, 2) := by decide +kernel
theorem d_MD_court_38 : decode M_MD_court.2.1 38 = .ok (.baload, 1) := by decide +kernel
theorem d_MD_court_39 : decode M_MD_court.2.1 39 = .ok (.ifCond .eq 4, 3) := by decide +kernel
theorem d_MD_court_42 : decode M_MD_court.2.1 42 = .ok (.return_, 1) := by decide +kernel
theorem d_MD_court_43 : decode M_MD_court.2.1 43 = .ok (.iload_n 2, 1) := by decide +kernel
theorem d_MD_court_44 : decode M_MD_court.2.1 44 = .ok (.istore 5, 2) := by decide +kernel
theorem d_MD_court_46 : decode M_MD_court.2.1 46 = .ok (.iload 5, 2) := by decide +kernel
theorem d_MD_court_48 : decode M_MD_court.2.1 48 = .ok (.iload_n 1, 1) := by decide +kernel
theorem d_MD_court_49 : decode M_MD_court.2.1 49 = .ok (.if_icmp .ge 62, 3) := by decide +kernel
theorem d_MD_court_52 : decode M_MD_court.2.1 52 = .ok (.aload_n 0, 1) := by decide +kernel
theorem d_MD_court_53 : decode M_MD_court.2.1 53 = .ok (.aload_n 0, 1) := by decide +kernel
theorem d_MD_court_54 : decode M_MD_court.2.1 54 = .ok (.getfield 43, 3) := by decide +kernel
theorem d_MD_court_57 : decode M_MD_court.2.1 57 = .ok (.iload 5, 2) := by decide +kernel
theorem d_MD_court_59 : decode M_MD_court.2.1 59 = .ok (.iaload, 1) := by decide +kernel
theorem d_MD_court_60 : decode M_MD_court.2.1 60 = .ok (.invokevirtual 142, 3) := by decide +kernel
theorem d_MD_court_63 : decode M_MD_court.2.1 63 = .ok (.iload 4, 2) := by decide +kernel
theorem d_MD_court_65 : decode M_MD_court.2.1 65 = .ok (.if_icmp .ne 40, 3) := by decide +kernel
theorem d_MD_court_68 : decode M_MD_court.2.1 68 = .ok (.aload_n 0, 1) := by decide +kernel
theorem d_MD_court_69 : decode M_MD_court.2.1 69 = .ok (.getfield 7, 3) := by decide +kernel
theorem d_MD_court_72 : decode M_MD_court.2.1 72 = .ok (.aload_n 0, 1) := by decide +kernel
theorem d_MD_court_73 : decode M_MD_court.2.1 73 = .ok (.getfield 43, 3) := by decide +kernel
theorem d_MD_court_76 : decode M_MD_court.2.1 76 = .ok (.iload 5, 2) := by decide +kernel
theorem d_MD_court_78 : decode M_MD_court.2.1 78 = .ok (.iaload, 1) := by decide +kernel
theorem d_MD_court_79 : decode M_MD_court.2.1 79 = .ok (.iaload, 1) := by decide +kernel
theorem d_MD_court_80 : decode M_MD_court.2.1 80 = .ok (.aload_n 0, 1) := by decide +kernel
theorem d_MD_court_81 : decode M_MD_court.2.1 81 = .ok (.getfield 7, 3) := by decide +kernel
theorem d_MD_court_84 : decode M_MD_court.2.1 84 = .ok (.iload_n 3, 1) := by decide +kernel
theorem d_MD_court_85 : decode M_MD_court.2.1 85 = .ok (.iaload, 1) := by decide +kernel
theorem d_MD_court_86 : decode M_MD_court.2.1 86 = .ok (.if_icmp .ne 19, 3) := by decide +kernel
theorem d_MD_court_89 : decode M_MD_court.2.1 89 = .ok (.aload_n 0, 1) := by decide +kernel
theorem d_MD_court_90 : decode M_MD_court.2.1 90 = .ok (.getfield 46, 3) := by decide +kernel
theorem d_MD_court_93 : decode M_MD_court.2.1 93 = .ok (.aload_n 0, 1) := by decide +kernel
theorem d_MD_court_94 : decode M_MD_court.2.1 94 = .ok (.getfield 43, 3) := by decide +kernel
theorem d_MD_court_97 : decode M_MD_court.2.1 97 = .ok (.iload 5, 2) := by decide +kernel
theorem d_MD_court_99 : decode M_MD_court.2.1 99 = .ok (.iaload, 1) := by decide +kernel
theorem d_MD_court_100 : decode M_MD_court.2.1 100 = .ok (.iaload, 1) := by decide +kernel
theorem d_MD_court_101 : decode M_MD_court.2.1 101 = .ok (.ifCond .ge 4, 3) := by decide +kernel
theorem d_MD_court_104 : decode M_MD_court.2.1 104 = .ok (.return_, 1) := by decide +kernel
theorem d_MD_court_105 : decode M_MD_court.2.1 105 = .ok (.iinc 5 1, 3) := by decide +kernel
theorem d_MD_court_108 : decode M_MD_court.2.1 108 = .ok (.goto (-62), 3) := by decide +kernel
theorem d_MD_court_111 : decode M_MD_court.2.1 111 = .ok (.aload_n 0, 1) := by decide +kernel
theorem d_MD_court_112 : decode M_MD_court.2.1 112 = .ok (.getfield 40, 3) := by decide +kernel
theorem d_MD_court_115 : decode M_MD_court.2.1 115 = .ok (.iconst 2, 1) := by decide +kernel
theorem d_MD_court_116 : decode M_MD_court.2.1 116 = .ok (.iaload, 1) := by decide +kernel
theorem d_MD_court_117 : decode M_MD_court.2.1 117 = .ok (.iconst 1, 1) := by decide +kernel
theorem d_MD_court_118 : decode M_MD_court.2.1 118 = .ok (.iand, 1) := by decide +kernel
theorem d_MD_court_119 : decode M_MD_court.2.1 119 = .ok (.ifCond .eq 32, 3) := by decide +kernel
theorem d_MD_court_122 : decode M_MD_court.2.1 122 = .ok (.aload_n 0, 1) := by decide +kernel
theorem d_MD_court_123 : decode M_MD_court.2.1 123 = .ok (.getfield 16, 3) := by decide +kernel
theorem d_MD_court_126 : decode M_MD_court.2.1 126 = .ok (.iload_n 3, 1) := by decide +kernel
theorem d_MD_court_127 : decode M_MD_court.2.1 127 = .ok (.iaload, 1) := by decide +kernel
theorem d_MD_court_128 : decode M_MD_court.2.1 128 = .ok (.ifCond .le 23, 3) := by decide +kernel
theorem d_MD_court_131 : decode M_MD_court.2.1 131 = .ok (.aload_n 0, 1) := by decide +kernel
theorem d_MD_court_132 : decode M_MD_court.2.1 132 = .ok (.getfield 59, 3) := by decide +kernel
theorem d_MD_court_135 : decode M_MD_court.2.1 135 = .ok (.iload 4, 2) := by decide +kernel
theorem d_MD_court_137 : decode M_MD_court.2.1 137 = .ok (.iaload, 1) := by decide +kernel
theorem d_MD_court_138 : decode M_MD_court.2.1 138 = .ok (.aload_n 0, 1) := by decide +kernel
theorem d_MD_court_139 : decode M_MD_court.2.1 139 = .ok (.getfield 13, 3) := by decide +kernel
theorem d_MD_court_142 : decode M_MD_court.2.1 142 = .ok (.iload_n 3, 1) := by decide +kernel
theorem d_MD_court_143 : decode M_MD_court.2.1 143 = .ok (.iaload, 1) := by decide +kernel
theorem d_MD_court_144 : decode M_MD_court.2.1 144 = .ok (.if_icmp .eq 7, 3) := by decide +kernel
theorem d_MD_court_147 : decode M_MD_court.2.1 147 = .ok (.iconst 1, 1) := by decide +kernel
theorem d_MD_court_148 : decode M_MD_court.2.1 148 = .ok (.goto 4, 3) := by decide +kernel
theorem d_MD_court_151 : decode M_MD_court.2.1 151 = .ok (.iconst 0, 1) := by decide +kernel
theorem d_MD_court_152 : decode M_MD_court.2.1 152 = .ok (.istore 5, 2) := by decide +kernel
theorem d_MD_court_154 : decode M_MD_court.2.1 154 = .ok (.iload 5, 2) := by decide +kernel
theorem d_MD_court_156 : decode M_MD_court.2.1 156 = .ok (.ifCond .ne 31, 3) := by decide +kernel
theorem d_MD_court_159 : decode M_MD_court.2.1 159 = .ok (.aload_n 0, 1) := by decide +kernel
theorem d_MD_court_160 : decode M_MD_court.2.1 160 = .ok (.getfield 40, 3) := by decide +kernel
theorem d_MD_court_163 : decode M_MD_court.2.1 163 = .ok (.iconst 2, 1) := by decide +kernel
theorem d_MD_court_164 : decode M_MD_court.2.1 164 = .ok (.iaload, 1) := by decide +kernel
theorem d_MD_court_165 : decode M_MD_court.2.1 165 = .ok (.iconst 2, 1) := by decide +kernel
theorem d_MD_court_166 : decode M_MD_court.2.1 166 = .ok (.iand, 1) := by decide +kernel
theorem d_MD_court_167 : decode M_MD_court.2.1 167 = .ok (.ifCond .eq 24, 3) := by decide +kernel
theorem d_MD_court_170 : decode M_MD_court.2.1 170 = .ok (.aload_n 0, 1) := by decide +kernel
theorem d_MD_court_171 : decode M_MD_court.2.1 171 = .ok (.getfield 40, 3) := by decide +kernel
theorem d_MD_court_174 : decode M_MD_court.2.1 174 = .ok (.iconst 0, 1) := by decide +kernel
theorem d_MD_court_175 : decode M_MD_court.2.1 175 = .ok (.iaload, 1) := by decide +kernel
theorem d_MD_court_176 : decode M_MD_court.2.1 176 = .ok (.ifCond .ne 15, 3) := by decide +kernel
theorem d_MD_court_179 : decode M_MD_court.2.1 179 = .ok (.aload_n 0, 1) := by decide +kernel
theorem d_MD_court_180 : decode M_MD_court.2.1 180 = .ok (.iload_n 3, 1) := by decide +kernel
theorem d_MD_court_181 : decode M_MD_court.2.1 181 = .ok (.invokevirtual 145, 3) := by decide +kernel
theorem d_MD_court_184 : decode M_MD_court.2.1 184 = .ok (.ifCond .eq 7, 3) := by decide +kernel
theorem d_MD_court_187 : decode M_MD_court.2.1 187 = .ok (.iconst 1, 1) := by decide +kernel
theorem d_MD_court_188 : decode M_MD_court.2.1 188 = .ok (.goto 4, 3) := by decide +kernel
theorem d_MD_court_191 : decode M_MD_court.2.1 191 = .ok (.iconst 0, 1) := by decide +kernel
theorem d_MD_court_192 : decode M_MD_court.2.1 192 = .ok (.istore 5, 2) := by decide +kernel
theorem d_MD_court_194 : decode M_MD_court.2.1 194 = .ok (.iload 5, 2) := by decide +kernel
theorem d_MD_court_196 : decode M_MD_court.2.1 196 = .ok (.ifCond .ne 23, 3) := by decide +kernel
theorem d_MD_court_199 : decode M_MD_court.2.1 199 = .ok (.aload_n 0, 1) := by decide +kernel
theorem d_MD_court_200 : decode M_MD_court.2.1 200 = .ok (.getfield 40, 3) := by decide +kernel
theorem d_MD_court_203 : decode M_MD_court.2.1 203 = .ok (.iconst 2, 1) := by decide +kernel
theorem d_MD_court_204 : decode M_MD_court.2.1 204 = .ok (.iaload, 1) := by decide +kernel
theorem d_MD_court_205 : decode M_MD_court.2.1 205 = .ok (.iconst 4, 1) := by decide +kernel
theorem d_MD_court_206 : decode M_MD_court.2.1 206 = .ok (.iand, 1) := by decide +kernel
theorem d_MD_court_207 : decode M_MD_court.2.1 207 = .ok (.ifCond .eq 16, 3) := by decide +kernel
theorem d_MD_court_210 : decode M_MD_court.2.1 210 = .ok (.aload_n 0, 1) := by decide +kernel
theorem d_MD_court_211 : decode M_MD_court.2.1 211 = .ok (.iload_n 3, 1) := by decide +kernel
theorem d_MD_court_212 : decode M_MD_court.2.1 212 = .ok (.iload_n 2, 1) := by decide +kernel
theorem d_MD_court_213 : decode M_MD_court.2.1 213 = .ok (.invokevirtual 149, 3) := by decide +kernel
theorem d_MD_court_216 : decode M_MD_court.2.1 216 = .ok (.ifCond .eq 7, 3) := by decide +kernel
theorem d_MD_court_219 : decode M_MD_court.2.1 219 = .ok (.iconst 1, 1) := by decide +kernel
theorem d_MD_court_220 : decode M_MD_court.2.1 220 = .ok (.goto 4, 3) := by decide +kernel
theorem d_MD_court_223 : decode M_MD_court.2.1 223 = .ok (.iconst 0, 1) := by decide +kernel
theorem d_MD_court_224 : decode M_MD_court.2.1 224 = .ok (.istore 5, 2) := by decide +kernel
theorem d_MD_court_226 : decode M_MD_court.2.1 226 = .ok (.iload 5, 2) := by decide +kernel
theorem d_MD_court_228 : decode M_MD_court.2.1 228 = .ok (.ifCond .ne 73, 3) := by decide +kernel
theorem d_MD_court_231 : decode M_MD_court.2.1 231 = .ok (.aload_n 0, 1) := by decide +kernel
theorem d_MD_court_232 : decode M_MD_court.2.1 232 = .ok (.getfield 40, 3) := by decide +kernel
theorem d_MD_court_235 : decode M_MD_court.2.1 235 = .ok (.iconst 2, 1) := by decide +kernel
theorem d_MD_court_236 : decode M_MD_court.2.1 236 = .ok (.iaload, 1) := by decide +kernel
theorem d_MD_court_237 : decode M_MD_court.2.1 237 = .ok (.bipush 8, 2) := by decide +kernel
theorem d_MD_court_239 : decode M_MD_court.2.1 239 = .ok (.iand, 1) := by decide +kernel
theorem d_MD_court_240 : decode M_MD_court.2.1 240 = .ok (.ifCond .eq 65, 3) := by decide +kernel
theorem d_MD_court_243 : decode M_MD_court.2.1 243 = .ok (.aload_n 0, 1) := by decide +kernel
theorem d_MD_court_244 : decode M_MD_court.2.1 244 = .ok (.getfield 16, 3) := by decide +kernel
theorem d_MD_court_247 : decode M_MD_court.2.1 247 = .ok (.iload_n 3, 1) := by decide +kernel
theorem d_MD_court_248 : decode M_MD_court.2.1 248 = .ok (.iaload, 1) := by decide +kernel
theorem d_MD_court_249 : decode M_MD_court.2.1 249 = .ok (.ifCond .le 56, 3) := by decide +kernel
theorem d_MD_court_252 : decode M_MD_court.2.1 252 = .ok (.aload_n 0, 1) := by decide +kernel
theorem d_MD_court_253 : decode M_MD_court.2.1 253 = .ok (.aload_n 0, 1) := by decide +kernel
theorem d_MD_court_254 : decode M_MD_court.2.1 254 = .ok (.getfield 16, 3) := by decide +kernel
theorem d_MD_court_257 : decode M_MD_court.2.1 257 = .ok (.iload_n 3, 1) := by decide +kernel
theorem d_MD_court_258 : decode M_MD_court.2.1 258 = .ok (.iaload, 1) := by decide +kernel
theorem d_MD_court_259 : decode M_MD_court.2.1 259 = .ok (.iconst 1, 1) := by decide +kernel
theorem d_MD_court_260 : decode M_MD_court.2.1 260 = .ok (.isub, 1) := by decide +kernel
theorem d_MD_court_261 : decode M_MD_court.2.1 261 = .ok (.invokevirtual 115, 3) := by decide +kernel
theorem d_MD_court_264 : decode M_MD_court.2.1 264 = .ok (.aload_n 0, 1) := by decide +kernel
theorem d_MD_court_265 : decode M_MD_court.2.1 265 = .ok (.getfield 7, 3) := by decide +kernel
theorem d_MD_court_268 : decode M_MD_court.2.1 268 = .ok (.iload_n 3, 1) := by decide +kernel
theorem d_MD_court_269 : decode M_MD_court.2.1 269 = .ok (.iaload, 1) := by decide +kernel
theorem d_MD_court_270 : decode M_MD_court.2.1 270 = .ok (.bipush 7, 2) := by decide +kernel
theorem d_MD_court_272 : decode M_MD_court.2.1 272 = .ok (.irem, 1) := by decide +kernel
theorem d_MD_court_273 : decode M_MD_court.2.1 273 = .ok (.invokestatic 128, 3) := by decide +kernel
theorem d_MD_court_276 : decode M_MD_court.2.1 276 = .ok (.aload_n 0, 1) := by decide +kernel
theorem d_MD_court_277 : decode M_MD_court.2.1 277 = .ok (.aload_n 0, 1) := by decide +kernel
theorem d_MD_court_278 : decode M_MD_court.2.1 278 = .ok (.getfield 16, 3) := by decide +kernel
theorem d_MD_court_281 : decode M_MD_court.2.1 281 = .ok (.iload_n 3, 1) := by decide +kernel
theorem d_MD_court_282 : decode M_MD_court.2.1 282 = .ok (.iaload, 1) := by decide +kernel
theorem d_MD_court_283 : decode M_MD_court.2.1 283 = .ok (.invokevirtual 115, 3) := by decide +kernel
theorem d_MD_court_286 : decode M_MD_court.2.1 286 = .ok (.aload_n 0, 1) := by decide +kernel
theorem d_MD_court_287 : decode M_MD_court.2.1 287 = .ok (.getfield 7, 3) := by decide +kernel
theorem d_MD_court_290 : decode M_MD_court.2.1 290 = .ok (.iload_n 3, 1) := by decide +kernel
theorem d_MD_court_291 : decode M_MD_court.2.1 291 = .ok (.iaload, 1) := by decide +kernel
theorem d_MD_court_292 : decode M_MD_court.2.1 292 = .ok (.bipush 7, 2) := by decide +kernel
theorem d_MD_court_294 : decode M_MD_court.2.1 294 = .ok (.irem, 1) := by decide +kernel
theorem d_MD_court_295 : decode M_MD_court.2.1 295 = .ok (.invokestatic 128, 3) := by decide +kernel
theorem d_MD_court_298 : decode M_MD_court.2.1 298 = .ok (.if_icmp .eq 7, 3) := by decide +kernel
theorem d_MD_court_301 : decode M_MD_court.2.1 301 = .ok (.iconst 1, 1) := by decide +kernel
theorem d_MD_court_302 : decode M_MD_court.2.1 302 = .ok (.goto 4, 3) := by decide +kernel
theorem d_MD_court_305 : decode M_MD_court.2.1 305 = .ok (.iconst 0, 1) := by decide +kernel
theorem d_MD_court_306 : decode M_MD_court.2.1 306 = .ok (.istore 5, 2) := by decide +kernel
theorem d_MD_court_308 : decode M_MD_court.2.1 308 = .ok (.iload 5, 2) := by decide +kernel
theorem d_MD_court_310 : decode M_MD_court.2.1 310 = .ok (.ifCond .eq 18, 3) := by decide +kernel
theorem d_MD_court_313 : decode M_MD_court.2.1 313 = .ok (.aload_n 0, 1) := by decide +kernel
theorem d_MD_court_314 : decode M_MD_court.2.1 314 = .ok (.getfield 49, 3) := by decide +kernel
theorem d_MD_court_317 : decode M_MD_court.2.1 317 = .ok (.iload_n 3, 1) := by decide +kernel
theorem d_MD_court_318 : decode M_MD_court.2.1 318 = .ok (.iconst 2, 1) := by decide +kernel
theorem d_MD_court_319 : decode M_MD_court.2.1 319 = .ok (.iastore, 1) := by decide +kernel
theorem d_MD_court_320 : decode M_MD_court.2.1 320 = .ok (.aload_n 0, 1) := by decide +kernel
theorem d_MD_court_321 : decode M_MD_court.2.1 321 = .ok (.getfield 68, 3) := by decide +kernel
theorem d_MD_court_324 : decode M_MD_court.2.1 324 = .ok (.iload 4, 2) := by decide +kernel
theorem d_MD_court_326 : decode M_MD_court.2.1 326 = .ok (.iconst 1, 1) := by decide +kernel
theorem d_MD_court_327 : decode M_MD_court.2.1 327 = .ok (.bastore, 1) := by decide +kernel
theorem d_MD_court_328 : decode M_MD_court.2.1 328 = .ok (.return_, 1) := by decide +kernel
theorem d_MD_otherSeat_0 : decode M_MD_otherSeat.2.1 0 = .ok (.aload_n 0, 1) := by decide +kernel
theorem d_MD_otherSeat_1 : decode M_MD_otherSeat.2.1 1 = .ok (.iload_n 1, 1) := by decide +kernel
theorem d_MD_otherSeat_2 : decode M_MD_otherSeat.2.1 2 = .ok (.invokevirtual 142, 3) := by decide +kernel
theorem d_MD_otherSeat_5 : decode M_MD_otherSeat.2.1 5 = .ok (.istore_n 2, 1) := by decide +kernel
theorem d_MD_otherSeat_6 : decode M_MD_otherSeat.2.1 6 = .ok (.iload_n 2, 1) := by decide +kernel
theorem d_MD_otherSeat_7 : decode M_MD_otherSeat.2.1 7 = .ok (.bipush 28, 2) := by decide +kernel
theorem d_MD_otherSeat_9 : decode M_MD_otherSeat.2.1 9 = .ok (.irem, 1) := by decide +kernel
theorem d_MD_otherSeat_10 : decode M_MD_otherSeat.2.1 10 = .ok (.istore_n 3, 1) := by decide +kernel
theorem d_MD_otherSeat_11 : decode M_MD_otherSeat.2.1 11 = .ok (.iload_n 3, 1) := by decide +kernel
theorem d_MD_otherSeat_12 : decode M_MD_otherSeat.2.1 12 = .ok (.sipush 280, 3) := by decide +kernel
theorem d_MD_otherSeat_15 : decode M_MD_otherSeat.2.1 15 = .ok (.if_icmp .ge 40, 3) := by decide +kernel
theorem d_MD_otherSeat_18 : decode M_MD_otherSeat.2.1 18 = .ok (.iload_n 3, 1) := by decide +kernel
theorem d_MD_otherSeat_19 : decode M_MD_otherSeat.2.1 19 = .ok (.iload_n 2, 1) := by decide +kernel
theorem d_MD_otherSeat_20 : decode M_MD_otherSeat.2.1 20 = .ok (.if_icmp .eq 29, 3) := by decide +kernel
theorem d_MD_otherSeat_23 : decode M_MD_otherSeat.2.1 23 = .ok (.aload_n 0, 1) := by decide +kernel
theorem d_MD_otherSeat_24 : decode M_MD_otherSeat.2.1 24 = .ok (.getfield 65, 3) := by decide +kernel
theorem d_MD_otherSeat_27 : decode M_MD_otherSeat.2.1 27 = .ok (.iload_n 3, 1) := by decide +kernel
theorem d_MD_otherSeat_28 : decode M_MD_otherSeat.2.1 28 = .ok (.baload, 1) := by decide +kernel
theorem d_MD_otherSeat_29 : decode M_MD_otherSeat.2.1 29 = .ok (.ifCond .eq 20, 3) := by decide +kernel
theorem d_MD_otherSeat_32 : decode M_MD_otherSeat.2.1 32 = .ok (.aload_n 0, 1) := by decide +kernel
theorem d_MD_otherSeat_33 : decode M_MD_otherSeat.2.1 33 = .ok (.getfield 56, 3) := by decide +kernel
theorem d_MD_otherSeat_36 : decode M_MD_otherSeat.2.1 36 = .ok (.iload_n 3, 1) := by decide +kernel
theorem d_MD_otherSeat_37 : decode M_MD_otherSeat.2.1 37 = .ok (.iaload, 1) := by decide +kernel
theorem d_MD_otherSeat_38 : decode M_MD_otherSeat.2.1 38 = .ok (.aload_n 0, 1) := by decide +kernel
theorem d_MD_otherSeat_39 : decode M_MD_otherSeat.2.1 39 = .ok (.getfield 13, 3) := by decide +kernel
theorem d_MD_otherSeat_42 : decode M_MD_otherSeat.2.1 42 = .ok (.iload_n 1, 1) := by decide +kernel
theorem d_MD_otherSeat_43 : decode M_MD_otherSeat.2.1 43 = .ok (.iaload, 1) := by decide +kernel
theorem d_MD_otherSeat_44 : decode M_MD_otherSeat.2.1 44 = .ok (.if_icmp .eq 5, 3) := by decide +kernel
theorem d_MD_otherSeat_47 : decode M_MD_otherSeat.2.1 47 = .ok (.iconst 1, 1) := by decide +kernel
theorem d_MD_otherSeat_48 : decode M_MD_otherSeat.2.1 48 = .ok (.ireturn, 1) := by decide +kernel
theorem d_MD_otherSeat_49 : decode M_MD_otherSeat.2.1 49 = .ok (.iinc 3 28, 3) := by decide +kernel
theorem d_MD_otherSeat_52 : decode M_MD_otherSeat.2.1 52 = .ok (.goto (-41), 3) := by decide +kernel
theorem d_MD_otherSeat_55 : decode M_MD_otherSeat.2.1 55 = .ok (.iconst 0, 1) := by decide +kernel
theorem d_MD_otherSeat_56 : decode M_MD_otherSeat.2.1 56 = .ok (.ireturn, 1) := by decide +kernel
theorem d_MD_tiedAhead_0 : decode M_MD_tiedAhead.2.1 0 = .ok (.iload_n 2, 1) := by decide +kernel
theorem d_MD_tiedAhead_1 : decode M_MD_tiedAhead.2.1 1 = .ok (.iconst 1, 1) := by decide +kernel
theorem d_MD_tiedAhead_2 : decode M_MD_tiedAhead.2.1 2 = .ok (.isub, 1) := by decide +kernel
theorem d_MD_tiedAhead_3 : decode M_MD_tiedAhead.2.1 3 = .ok (.istore_n 3, 1) := by decide +kernel
theorem d_MD_tiedAhead_4 : decode M_MD_tiedAhead.2.1 4 = .ok (.iload_n 3, 1) := by decide +kernel
theorem d_MD_tiedAhead_5 : decode M_MD_tiedAhead.2.1 5 = .ok (.ifCond .lt 101, 3) := by decide +kernel
theorem d_MD_tiedAhead_8 : decode M_MD_tiedAhead.2.1 8 = .ok (.aload_n 0, 1) := by decide +kernel
theorem d_MD_tiedAhead_9 : decode M_MD_tiedAhead.2.1 9 = .ok (.getfield 16, 3) := by decide +kernel
theorem d_MD_tiedAhead_12 : decode M_MD_tiedAhead.2.1 12 = .ok (.aload_n 0, 1) := by decide +kernel
theorem d_MD_tiedAhead_13 : decode M_MD_tiedAhead.2.1 13 = .ok (.getfield 43, 3) := by decide +kernel
theorem d_MD_tiedAhead_16 : decode M_MD_tiedAhead.2.1 16 = .ok (.iload_n 3, 1) := by decide +kernel
theorem d_MD_tiedAhead_17 : decode M_MD_tiedAhead.2.1 17 = .ok (.iaload, 1) := by decide +kernel
theorem d_MD_tiedAhead_18 : decode M_MD_tiedAhead.2.1 18 = .ok (.iaload, 1) := by decide +kernel
theorem d_MD_tiedAhead_19 : decode M_MD_tiedAhead.2.1 19 = .ok (.aload_n 0, 1) := by decide +kernel
theorem d_MD_tiedAhead_20 : decode M_MD_tiedAhead.2.1 20 = .ok (.getfield 16, 3) := by decide +kernel
theorem d_MD_tiedAhead_23 : decode M_MD_tiedAhead.2.1 23 = .ok (.iload_n 1, 1) := by decide +kernel
theorem d_MD_tiedAhead_24 : decode M_MD_tiedAhead.2.1 24 = .ok (.iaload, 1) := by decide +kernel
theorem d_MD_tiedAhead_25 : decode M_MD_tiedAhead.2.1 25 = .ok (.if_icmp .ne 81, 3) := by decide +kernel
theorem d_MD_tiedAhead_28 : decode M_MD_tiedAhead.2.1 28 = .ok (.aload_n 0, 1) := by decide +kernel
theorem d_MD_tiedAhead_29 : decode M_MD_tiedAhead.2.1 29 = .ok (.getfield 43, 3) := by decide +kernel
theorem d_MD_tiedAhead_32 : decode M_MD_tiedAhead.2.1 32 = .ok (.iload_n 3, 1) := by decide +kernel
theorem d_MD_tiedAhead_33 : decode M_MD_tiedAhead.2.1 33 = .ok (.iaload, 1) := by decide +kernel
theorem d_MD_tiedAhead_34 : decode M_MD_tiedAhead.2.1 34 = .ok (.istore 4, 2) := by decide +kernel
theorem d_MD_tiedAhead_36 : decode M_MD_tiedAhead.2.1 36 = .ok (.aload_n 0, 1) := by decide +kernel
theorem d_MD_tiedAhead_37 : decode M_MD_tiedAhead.2.1 37 = .ok (.iload 4, 2) := by decide +kernel
theorem d_MD_tiedAhead_39 : decode M_MD_tiedAhead.2.1 39 = .ok (.invokevirtual 142, 3) := by decide +kernel
theorem d_MD_tiedAhead_42 : decode M_MD_tiedAhead.2.1 42 = .ok (.aload_n 0, 1) := by decide +kernel
theorem d_MD_tiedAhead_43 : decode M_MD_tiedAhead.2.1 43 = .ok (.iload_n 1, 1) := by decide +kernel
theorem d_MD_tiedAhead_44 : decode M_MD_tiedAhead.2.1 44 = .ok (.invokevirtual 142, 3) := by decide +kernel
theorem d_MD_tiedAhead_47 : decode M_MD_tiedAhead.2.1 47 = .ok (.if_icmp .ne 53, 3) := by decide +kernel
theorem d_MD_tiedAhead_50 : decode M_MD_tiedAhead.2.1 50 = .ok (.aload_n 0, 1) := by decide +kernel
theorem d_MD_tiedAhead_51 : decode M_MD_tiedAhead.2.1 51 = .ok (.getfield 46, 3) := by decide +kernel
theorem d_MD_tiedAhead_54 : decode M_MD_tiedAhead.2.1 54 = .ok (.iload 4, 2) := by decide +kernel
theorem d_MD_tiedAhead_56 : decode M_MD_tiedAhead.2.1 56 = .ok (.iaload, 1) := by decide +kernel
theorem d_MD_tiedAhead_57 : decode M_MD_tiedAhead.2.1 57 = .ok (.ifCond .lt 43, 3) := by decide +kernel
theorem d_MD_tiedAhead_60 : decode M_MD_tiedAhead.2.1 60 = .ok (.aload_n 0, 1) := by decide +kernel
theorem d_MD_tiedAhead_61 : decode M_MD_tiedAhead.2.1 61 = .ok (.getfield 16, 3) := by decide +kernel
theorem d_MD_tiedAhead_64 : decode M_MD_tiedAhead.2.1 64 = .ok (.aload_n 0, 1) := by decide +kernel
theorem d_MD_tiedAhead_65 : decode M_MD_tiedAhead.2.1 65 = .ok (.getfield 46, 3) := by decide +kernel
theorem d_MD_tiedAhead_68 : decode M_MD_tiedAhead.2.1 68 = .ok (.iload 4, 2) := by decide +kernel
theorem d_MD_tiedAhead_70 : decode M_MD_tiedAhead.2.1 70 = .ok (.iaload, 1) := by decide +kernel
theorem d_MD_tiedAhead_71 : decode M_MD_tiedAhead.2.1 71 = .ok (.iaload, 1) := by decide +kernel
theorem d_MD_tiedAhead_72 : decode M_MD_tiedAhead.2.1 72 = .ok (.aload_n 0, 1) := by decide +kernel
theorem d_MD_tiedAhead_73 : decode M_MD_tiedAhead.2.1 73 = .ok (.getfield 16, 3) := by decide +kernel
theorem d_MD_tiedAhead_76 : decode M_MD_tiedAhead.2.1 76 = .ok (.iload 4, 2) := by decide +kernel
theorem d_MD_tiedAhead_78 : decode M_MD_tiedAhead.2.1 78 = .ok (.iaload, 1) := by decide +kernel
theorem d_MD_tiedAhead_79 : decode M_MD_tiedAhead.2.1 79 = .ok (.if_icmp .ge 21, 3) := by decide +kernel
theorem d_MD_tiedAhead_82 : decode M_MD_tiedAhead.2.1 82 = .ok (.aload_n 0, 1) := by decide +kernel
theorem d_MD_tiedAhead_83 : decode M_MD_tiedAhead.2.1 83 = .ok (.getfield 13, 3) := by decide +kernel
theorem d_MD_tiedAhead_86 : decode M_MD_tiedAhead.2.1 86 = .ok (.iload 4, 2) := by decide +kernel
theorem d_MD_tiedAhead_88 : decode M_MD_tiedAhead.2.1 88 = .ok (.iaload, 1) := by decide +kernel
theorem d_MD_tiedAhead_89 : decode M_MD_tiedAhead.2.1 89 = .ok (.aload_n 0, 1) := by decide +kernel
theorem d_MD_tiedAhead_90 : decode M_MD_tiedAhead.2.1 90 = .ok (.getfield 13, 3) := by decide +kernel
theorem d_MD_tiedAhead_93 : decode M_MD_tiedAhead.2.1 93 = .ok (.iload_n 1, 1) := by decide +kernel
theorem d_MD_tiedAhead_94 : decode M_MD_tiedAhead.2.1 94 = .ok (.iaload, 1) := by decide +kernel
theorem d_MD_tiedAhead_95 : decode M_MD_tiedAhead.2.1 95 = .ok (.if_icmp .eq 5, 3) := by decide +kernel
theorem d_MD_tiedAhead_98 : decode M_MD_tiedAhead.2.1 98 = .ok (.iconst 1, 1) := by decide +kernel
theorem d_MD_tiedAhead_99 : decode M_MD_tiedAhead.2.1 99 = .ok (.ireturn, 1) := by decide +kernel
theorem d_MD_tiedAhead_100 : decode M_MD_tiedAhead.2.1 100 = .ok (.iinc 3 (-1), 3) := by decide +kernel
theorem d_MD_tiedAhead_103 : decode M_MD_tiedAhead.2.1 103 = .ok (.goto (-99), 3) := by decide +kernel
theorem d_MD_tiedAhead_106 : decode M_MD_tiedAhead.2.1 106 = .ok (.iconst 0, 1) := by decide +kernel
theorem d_MD_tiedAhead_107 : decode M_MD_tiedAhead.2.1 107 = .ok (.ireturn, 1) := by decide +kernel
theorem d_MD_placeOf_0 : decode M_MD_placeOf.2.1 0 = .ok (.aload_n 0, 1) := by decide +kernel
theorem d_MD_placeOf_1 : decode M_MD_placeOf.2.1 1 = .ok (.aload_n 0, 1) := by decide +kernel
theorem d_MD_placeOf_2 : decode M_MD_placeOf.2.1 2 = .ok (.getfield 16, 3) := by decide +kernel
theorem d_MD_placeOf_5 : decode M_MD_placeOf.2.1 5 = .ok (.iload_n 1, 1) := by decide +kernel
theorem d_MD_placeOf_6 : decode M_MD_placeOf.2.1 6 = .ok (.iaload, 1) := by decide +kernel
theorem d_MD_placeOf_7 : decode M_MD_placeOf.2.1 7 = .ok (.invokevirtual 118, 3) := by decide +kernel
theorem d_MD_placeOf_10 : decode M_MD_placeOf.2.1 10 = .ok (.istore_n 2, 1) := by decide +kernel
theorem d_MD_placeOf_11 : decode M_MD_placeOf.2.1 11 = .ok (.aload_n 0, 1) := by decide +kernel
theorem d_MD_placeOf_12 : decode M_MD_placeOf.2.1 12 = .ok (.getfield 7, 3) := by decide +kernel
theorem d_MD_placeOf_15 : decode M_MD_placeOf.2.1 15 = .ok (.iload_n 1, 1) := by decide +kernel
theorem d_MD_placeOf_16 : decode M_MD_placeOf.2.1 16 = .ok (.iaload, 1) := by decide +kernel
theorem d_MD_placeOf_17 : decode M_MD_placeOf.2.1 17 = .ok (.iload_n 2, 1) := by decide +kernel
theorem d_MD_placeOf_18 : decode M_MD_placeOf.2.1 18 = .ok (.ifCond .ne 8, 3) := by decide +kernel
theorem d_MD_placeOf_21 : decode M_MD_placeOf.2.1 21 = .ok (.bipush 30, 2) := by decide +kernel
theorem d_MD_placeOf_23 : decode M_MD_placeOf.2.1 23 = .ok (.goto 15, 3) := by decide +kernel
theorem d_MD_placeOf_26 : decode M_MD_placeOf.2.1 26 = .ok (.iload_n 2, 1) := by decide +kernel
theorem d_MD_placeOf_27 : decode M_MD_placeOf.2.1 27 = .ok (.iconst 1, 1) := by decide +kernel
theorem d_MD_placeOf_28 : decode M_MD_placeOf.2.1 28 = .ok (.if_icmp .ne 8, 3) := by decide +kernel
theorem d_MD_placeOf_31 : decode M_MD_placeOf.2.1 31 = .ok (.bipush 18, 2) := by decide +kernel
theorem d_MD_placeOf_33 : decode M_MD_placeOf.2.1 33 = .ok (.goto 5, 3) := by decide +kernel
theorem d_MD_placeOf_36 : decode M_MD_placeOf.2.1 36 = .ok (.bipush 24, 2) := by decide +kernel
theorem d_MD_placeOf_38 : decode M_MD_placeOf.2.1 38 = .ok (.isub, 1) := by decide +kernel
theorem d_MD_placeOf_39 : decode M_MD_placeOf.2.1 39 = .ok (.ireturn, 1) := by decide +kernel
theorem d_MD_width_0 : decode M_MD_width.2.1 0 = .ok (.aload_n 0, 1) := by decide +kernel
theorem d_MD_width_1 : decode M_MD_width.2.1 1 = .ok (.getfield 13, 3) := by decide +kernel
theorem d_MD_width_4 : decode M_MD_width.2.1 4 = .ok (.iload_n 1, 1) := by decide +kernel
theorem d_MD_width_5 : decode M_MD_width.2.1 5 = .ok (.iaload, 1) := by decide +kernel
theorem d_MD_width_6 : decode M_MD_width.2.1 6 = .ok (.istore_n 2, 1) := by decide +kernel
theorem d_MD_width_7 : decode M_MD_width.2.1 7 = .ok (.iload_n 2, 1) := by decide +kernel
theorem d_MD_width_8 : decode M_MD_width.2.1 8 = .ok (.bipush (-4), 2) := by decide +kernel
theorem d_MD_width_10 : decode M_MD_width.2.1 10 = .ok (.if_icmp .ne 8, 3) := by decide +kernel
theorem d_MD_width_13 : decode M_MD_width.2.1 13 = .ok (.bipush 16, 2) := by decide +kernel
theorem d_MD_width_15 : decode M_MD_width.2.1 15 = .ok (.goto 54, 3) := by decide +kernel
theorem d_MD_width_18 : decode M_MD_width.2.1 18 = .ok (.iload_n 2, 1) := by decide +kernel
theorem d_MD_width_19 : decode M_MD_width.2.1 19 = .ok (.bipush (-3), 2) := by decide +kernel
theorem d_MD_width_21 : decode M_MD_width.2.1 21 = .ok (.if_icmp .ne 8, 3) := by decide +kernel
theorem d_MD_width_24 : decode M_MD_width.2.1 24 = .ok (.bipush 12, 2) := by decide +kernel
theorem d_MD_width_26 : decode M_MD_width.2.1 26 = .ok (.goto 43, 3) := by decide +kernel
theorem d_MD_width_29 : decode M_MD_width.2.1 29 = .ok (.iload_n 2, 1) := by decide +kernel
theorem d_MD_width_30 : decode M_MD_width.2.1 30 = .ok (.ifCond .ge 8, 3) := by decide +kernel
theorem d_MD_width_33 : decode M_MD_width.2.1 33 = .ok (.bipush 9, 2) := by decide +kernel
theorem d_MD_width_35 : decode M_MD_width.2.1 35 = .ok (.goto 34, 3) := by decide +kernel
theorem d_MD_width_38 : decode M_MD_width.2.1 38 = .ok (.iload_n 2, 1) := by decide +kernel
theorem d_MD_width_39 : decode M_MD_width.2.1 39 = .ok (.ifCond .ne 8, 3) := by decide +kernel
theorem d_MD_width_42 : decode M_MD_width.2.1 42 = .ok (.bipush 7, 2) := by decide +kernel
theorem d_MD_width_44 : decode M_MD_width.2.1 44 = .ok (.goto 25, 3) := by decide +kernel
theorem d_MD_width_47 : decode M_MD_width.2.1 47 = .ok (.iload_n 2, 1) := by decide +kernel
theorem d_MD_width_48 : decode M_MD_width.2.1 48 = .ok (.iconst 1, 1) := by decide +kernel
theorem d_MD_width_49 : decode M_MD_width.2.1 49 = .ok (.if_icmp .ne 8, 3) := by decide +kernel
theorem d_MD_width_52 : decode M_MD_width.2.1 52 = .ok (.bipush 8, 2) := by decide +kernel
theorem d_MD_width_54 : decode M_MD_width.2.1 54 = .ok (.goto 15, 3) := by decide +kernel
theorem d_MD_width_57 : decode M_MD_width.2.1 57 = .ok (.iload_n 2, 1) := by decide +kernel
theorem d_MD_width_58 : decode M_MD_width.2.1 58 = .ok (.iconst 3, 1) := by decide +kernel
theorem d_MD_width_59 : decode M_MD_width.2.1 59 = .ok (.if_icmp .ne 8, 3) := by decide +kernel
theorem d_MD_width_62 : decode M_MD_width.2.1 62 = .ok (.bipush 14, 2) := by decide +kernel
theorem d_MD_width_64 : decode M_MD_width.2.1 64 = .ok (.goto 5, 3) := by decide +kernel
theorem d_MD_width_67 : decode M_MD_width.2.1 67 = .ok (.bipush 10, 2) := by decide +kernel
theorem d_MD_width_69 : decode M_MD_width.2.1 69 = .ok (.istore_n 3, 1) := by decide +kernel
theorem d_MD_width_70 : decode M_MD_width.2.1 70 = .ok (.iload_n 3, 1) := by decide +kernel
theorem d_MD_width_71 : decode M_MD_width.2.1 71 = .ok (.aload_n 0, 1) := by decide +kernel
theorem d_MD_width_72 : decode M_MD_width.2.1 72 = .ok (.getfield 49, 3) := by decide +kernel
theorem d_MD_width_75 : decode M_MD_width.2.1 75 = .ok (.iload_n 1, 1) := by decide +kernel
theorem d_MD_width_76 : decode M_MD_width.2.1 76 = .ok (.iaload, 1) := by decide +kernel
theorem d_MD_width_77 : decode M_MD_width.2.1 77 = .ok (.iconst 2, 1) := by decide +kernel
theorem d_MD_width_78 : decode M_MD_width.2.1 78 = .ok (.if_icmp .ne 8, 3) := by decide +kernel
theorem d_MD_width_81 : decode M_MD_width.2.1 81 = .ok (.bipush 8, 2) := by decide +kernel
theorem d_MD_width_83 : decode M_MD_width.2.1 83 = .ok (.goto 4, 3) := by decide +kernel
theorem d_MD_width_86 : decode M_MD_width.2.1 86 = .ok (.iconst 0, 1) := by decide +kernel
theorem d_MD_width_87 : decode M_MD_width.2.1 87 = .ok (.aload_n 0, 1) := by decide +kernel
theorem d_MD_width_88 : decode M_MD_width.2.1 88 = .ok (.getfield 52, 3) := by decide +kernel
theorem d_MD_width_91 : decode M_MD_width.2.1 91 = .ok (.iload_n 1, 1) := by decide +kernel
theorem d_MD_width_92 : decode M_MD_width.2.1 92 = .ok (.baload, 1) := by decide +kernel
theorem d_MD_width_93 : decode M_MD_width.2.1 93 = .ok (.ifCond .eq 8, 3) := by decide +kernel
theorem d_MD_width_96 : decode M_MD_width.2.1 96 = .ok (.bipush 7, 2) := by decide +kernel
theorem d_MD_width_98 : decode M_MD_width.2.1 98 = .ok (.goto 4, 3) := by decide +kernel
theorem d_MD_width_101 : decode M_MD_width.2.1 101 = .ok (.iconst 0, 1) := by decide +kernel
theorem d_MD_width_102 : decode M_MD_width.2.1 102 = .ok (.iadd, 1) := by decide +kernel
theorem d_MD_width_103 : decode M_MD_width.2.1 103 = .ok (.iadd, 1) := by decide +kernel
theorem d_MD_width_104 : decode M_MD_width.2.1 104 = .ok (.istore_n 3, 1) := by decide +kernel
theorem d_MD_width_105 : decode M_MD_width.2.1 105 = .ok (.aload_n 0, 1) := by decide +kernel
theorem d_MD_width_106 : decode M_MD_width.2.1 106 = .ok (.getfield 28, 3) := by decide +kernel
theorem d_MD_width_109 : decode M_MD_width.2.1 109 = .ok (.iload_n 1, 1) := by decide +kernel
theorem d_MD_width_110 : decode M_MD_width.2.1 110 = .ok (.iaload, 1) := by decide +kernel
theorem d_MD_width_111 : decode M_MD_width.2.1 111 = .ok (.iconst 1, 1) := by decide +kernel
theorem d_MD_width_112 : decode M_MD_width.2.1 112 = .ok (.if_icmp .ne 13, 3) := by decide +kernel
theorem d_MD_width_115 : decode M_MD_width.2.1 115 = .ok (.iconst 2, 1) := by decide +kernel
theorem d_MD_width_116 : decode M_MD_width.2.1 116 = .ok (.iload_n 3, 1) := by decide +kernel
theorem d_MD_width_117 : decode M_MD_width.2.1 117 = .ok (.imul, 1) := by decide +kernel
theorem d_MD_width_118 : decode M_MD_width.2.1 118 = .ok (.iconst 2, 1) := by decide +kernel
theorem d_MD_width_119 : decode M_MD_width.2.1 119 = .ok (.iadd, 1) := by decide +kernel
theorem d_MD_width_120 : decode M_MD_width.2.1 120 = .ok (.iconst 3, 1) := by decide +kernel
theorem d_MD_width_121 : decode M_MD_width.2.1 121 = .ok (.idiv, 1) := by decide +kernel
theorem d_MD_width_122 : decode M_MD_width.2.1 122 = .ok (.goto 4, 3) := by decide +kernel
theorem d_MD_width_125 : decode M_MD_width.2.1 125 = .ok (.iload_n 3, 1) := by decide +kernel
theorem d_MD_width_126 : decode M_MD_width.2.1 126 = .ok (.ireturn, 1) := by decide +kernel
theorem d_MD_reach_0 : decode M_MD_reach.2.1 0 = .ok (.aload_n 0, 1) := by decide +kernel
theorem d_MD_reach_1 : decode M_MD_reach.2.1 1 = .ok (.getfield 13, 3) := by decide +kernel
theorem d_MD_reach_4 : decode M_MD_reach.2.1 4 = .ok (.iload_n 1, 1) := by decide +kernel
theorem d_MD_reach_5 : decode M_MD_reach.2.1 5 = .ok (.iaload, 1) := by decide +kernel
theorem d_MD_reach_6 : decode M_MD_reach.2.1 6 = .ok (.ifCond .ge 15, 3) := by decide +kernel
theorem d_MD_reach_9 : decode M_MD_reach.2.1 9 = .ok (.iload_n 2, 1) := by decide +kernel
theorem d_MD_reach_10 : decode M_MD_reach.2.1 10 = .ok (.ifCond .eq 7, 3) := by decide +kernel
theorem d_MD_reach_13 : decode M_MD_reach.2.1 13 = .ok (.iconst 4, 1) := by decide +kernel
theorem d_MD_reach_14 : decode M_MD_reach.2.1 14 = .ok (.goto 22, 3) := by decide +kernel
theorem d_MD_reach_17 : decode M_MD_reach.2.1 17 = .ok (.iconst 2, 1) := by decide +kernel
theorem d_MD_reach_18 : decode M_MD_reach.2.1 18 = .ok (.goto 18, 3) := by decide +kernel
theorem d_MD_reach_21 : decode M_MD_reach.2.1 21 = .ok (.aload_n 0, 1) := by decide +kernel
theorem d_MD_reach_22 : decode M_MD_reach.2.1 22 = .ok (.getfield 13, 3) := by decide +kernel
theorem d_MD_reach_25 : decode M_MD_reach.2.1 25 = .ok (.iload_n 1, 1) := by decide +kernel
theorem d_MD_reach_26 : decode M_MD_reach.2.1 26 = .ok (.iaload, 1) := by decide +kernel
theorem d_MD_reach_27 : decode M_MD_reach.2.1 27 = .ok (.iconst 4, 1) := by decide +kernel
theorem d_MD_reach_28 : decode M_MD_reach.2.1 28 = .ok (.if_icmp .ne 7, 3) := by decide +kernel
theorem d_MD_reach_31 : decode M_MD_reach.2.1 31 = .ok (.iconst 1, 1) := by decide +kernel
theorem d_MD_reach_32 : decode M_MD_reach.2.1 32 = .ok (.goto 4, 3) := by decide +kernel
theorem d_MD_reach_35 : decode M_MD_reach.2.1 35 = .ok (.iconst 3, 1) := by decide +kernel
theorem d_MD_reach_36 : decode M_MD_reach.2.1 36 = .ok (.istore_n 3, 1) := by decide +kernel
theorem d_MD_reach_37 : decode M_MD_reach.2.1 37 = .ok (.aload_n 0, 1) := by decide +kernel
theorem d_MD_reach_38 : decode M_MD_reach.2.1 38 = .ok (.getfield 49, 3) := by decide +kernel
theorem d_MD_reach_41 : decode M_MD_reach.2.1 41 = .ok (.iload_n 1, 1) := by decide +kernel
theorem d_MD_reach_42 : decode M_MD_reach.2.1 42 = .ok (.iaload, 1) := by decide +kernel
theorem d_MD_reach_43 : decode M_MD_reach.2.1 43 = .ok (.iconst 2, 1) := by decide +kernel
theorem d_MD_reach_44 : decode M_MD_reach.2.1 44 = .ok (.if_icmp .ne 12, 3) := by decide +kernel
theorem d_MD_reach_47 : decode M_MD_reach.2.1 47 = .ok (.iload_n 3, 1) := by decide +kernel
theorem d_MD_reach_48 : decode M_MD_reach.2.1 48 = .ok (.iconst 2, 1) := by decide +kernel
theorem d_MD_reach_49 : decode M_MD_reach.2.1 49 = .ok (.if_icmp .ge 7, 3) := by decide +kernel
theorem d_MD_reach_52 : decode M_MD_reach.2.1 52 = .ok (.iconst 2, 1) := by decide +kernel
theorem d_MD_reach_53 : decode M_MD_reach.2.1 53 = .ok (.goto 4, 3) := by decide +kernel
theorem d_MD_reach_56 : decode M_MD_reach.2.1 56 = .ok (.iload_n 3, 1) := by decide +kernel
theorem d_MD_reach_57 : decode M_MD_reach.2.1 57 = .ok (.ireturn, 1) := by decide +kernel
theorem d_MD_canShare_0 : decode M_MD_canShare.2.1 0 = .ok (.aload_n 0, 1) := by decide +kernel
theorem d_MD_canShare_1 : decode M_MD_canShare.2.1 1 = .ok (.iload_n 1, 1) := by decide +kernel
theorem d_MD_canShare_2 : decode M_MD_canShare.2.1 2 = .ok (.invokevirtual 153, 3) := by decide +kernel
theorem d_MD_canShare_5 : decode M_MD_canShare.2.1 5 = .ok (.aload_n 0, 1) := by decide +kernel
theorem d_MD_canShare_6 : decode M_MD_canShare.2.1 6 = .ok (.iload_n 2, 1) := by decide +kernel
theorem d_MD_canShare_7 : decode M_MD_canShare.2.1 7 = .ok (.invokevirtual 153, 3) := by decide +kernel
theorem d_MD_canShare_10 : decode M_MD_canShare.2.1 10 = .ok (.if_icmp .le 7, 3) := by decide +kernel
theorem d_MD_canShare_13 : decode M_MD_canShare.2.1 13 = .ok (.iload_n 1, 1) := by decide +kernel
theorem d_MD_canShare_14 : decode M_MD_canShare.2.1 14 = .ok (.goto 4, 3) := by decide +kernel
theorem d_MD_canShare_17 : decode M_MD_canShare.2.1 17 = .ok (.iload_n 2, 1) := by decide +kernel
theorem d_MD_canShare_18 : decode M_MD_canShare.2.1 18 = .ok (.istore_n 3, 1) := by decide +kernel
theorem d_MD_canShare_19 : decode M_MD_canShare.2.1 19 = .ok (.iload_n 3, 1) := by decide +kernel
theorem d_MD_canShare_20 : decode M_MD_canShare.2.1 20 = .ok (.iload_n 1, 1) := by decide +kernel
theorem d_MD_canShare_21 : decode M_MD_canShare.2.1 21 = .ok (.if_icmp .ne 7, 3) := by decide +kernel
theorem d_MD_canShare_24 : decode M_MD_canShare.2.1 24 = .ok (.iload_n 2, 1) := by decide +kernel
theorem d_MD_canShare_25 : decode M_MD_canShare.2.1 25 = .ok (.goto 4, 3) := by decide +kernel
theorem d_MD_canShare_28 : decode M_MD_canShare.2.1 28 = .ok (.iload_n 1, 1) := by decide +kernel
theorem d_MD_canShare_29 : decode M_MD_canShare.2.1 29 = .ok (.istore 4, 2) := by decide +kernel
theorem d_MD_canShare_31 : decode M_MD_canShare.2.1 31 = .ok (.aload_n 0, 1) := by decide +kernel
theorem d_MD_canShare_32 : decode M_MD_canShare.2.1 32 = .ok (.iload_n 3, 1) := by decide +kernel
theorem d_MD_canShare_33 : decode M_MD_canShare.2.1 33 = .ok (.invokevirtual 153, 3) := by decide +kernel
theorem d_MD_canShare_36 : decode M_MD_canShare.2.1 36 = .ok (.aload_n 0, 1) := by decide +kernel
theorem d_MD_canShare_37 : decode M_MD_canShare.2.1 37 = .ok (.iload 4, 2) := by decide +kernel
theorem d_MD_canShare_39 : decode M_MD_canShare.2.1 39 = .ok (.invokevirtual 153, 3) := by decide +kernel
theorem d_MD_canShare_42 : decode M_MD_canShare.2.1 42 = .ok (.isub, 1) := by decide +kernel
theorem d_MD_canShare_43 : decode M_MD_canShare.2.1 43 = .ok (.istore 5, 2) := by decide +kernel
theorem d_MD_canShare_45 : decode M_MD_canShare.2.1 45 = .ok (.iload 5, 2) := by decide +kernel
theorem d_MD_canShare_47 : decode M_MD_canShare.2.1 47 = .ok (.ifCond .le 26, 3) := by decide +kernel
theorem d_MD_canShare_50 : decode M_MD_canShare.2.1 50 = .ok (.iload 5, 2) := by decide +kernel
theorem d_MD_canShare_52 : decode M_MD_canShare.2.1 52 = .ok (.aload_n 0, 1) := by decide +kernel
theorem d_MD_canShare_53 : decode M_MD_canShare.2.1 53 = .ok (.iload_n 3, 1) := by decide +kernel
theorem d_MD_canShare_54 : decode M_MD_canShare.2.1 54 = .ok (.iconst 0, 1) := by decide +kernel
theorem d_MD_canShare_55 : decode M_MD_canShare.2.1 55 = .ok (.invokevirtual 156, 3) := by decide +kernel
theorem d_MD_canShare_58 : decode M_MD_canShare.2.1 58 = .ok (.aload_n 0, 1) := by decide +kernel
theorem d_MD_canShare_59 : decode M_MD_canShare.2.1 59 = .ok (.iload 4, 2) := by decide +kernel
theorem d_MD_canShare_61 : decode M_MD_canShare.2.1 61 = .ok (.iconst 1, 1) := by decide +kernel
theorem d_MD_canShare_62 : decode M_MD_canShare.2.1 62 = .ok (.invokevirtual 156, 3) := by decide +kernel
theorem d_MD_canShare_65 : decode M_MD_canShare.2.1 65 = .ok (.iadd, 1) := by decide +kernel
theorem d_MD_canShare_66 : decode M_MD_canShare.2.1 66 = .ok (.if_icmp .lt 7, 3) := by decide +kernel
theorem d_MD_canShare_69 : decode M_MD_canShare.2.1 69 = .ok (.iconst 1, 1) := by decide +kernel
theorem d_MD_canShare_70 : decode M_MD_canShare.2.1 70 = .ok (.goto 4, 3) := by decide +kernel
theorem d_MD_canShare_73 : decode M_MD_canShare.2.1 73 = .ok (.iconst 0, 1) := by decide +kernel
theorem d_MD_canShare_74 : decode M_MD_canShare.2.1 74 = .ok (.ireturn, 1) := by decide +kernel
theorem d_MD_listSigns_0 : decode M_MD_listSigns.2.1 0 = .ok (.aload_n 0, 1) := by decide +kernel
theorem d_MD_listSigns_1 : decode M_MD_listSigns.2.1 1 = .ok (.iconst 0, 1) := by decide +kernel
theorem d_MD_listSigns_2 : decode M_MD_listSigns.2.1 2 = .ok (.putfield 159, 3) := by decide +kernel
theorem d_MD_listSigns_5 : decode M_MD_listSigns.2.1 5 = .ok (.iconst 0, 1) := by decide +kernel
theorem d_MD_listSigns_6 : decode M_MD_listSigns.2.1 6 = .ok (.istore_n 3, 1) := by decide +kernel
theorem d_MD_listSigns_7 : decode M_MD_listSigns.2.1 7 = .ok (.iload_n 3, 1) := by decide +kernel
theorem d_MD_listSigns_8 : decode M_MD_listSigns.2.1 8 = .ok (.aload_n 0, 1) := by decide +kernel
theorem d_MD_listSigns_9 : decode M_MD_listSigns.2.1 9 = .ok (.getfield 97, 3) := by decide +kernel
theorem d_MD_listSigns_12 : decode M_MD_listSigns.2.1 12 = .ok (.if_icmp .ge 110, 3) := by decide +kernel
theorem d_MD_listSigns_15 : decode M_MD_listSigns.2.1 15 = .ok (.aload_n 0, 1) := by decide +kernel
theorem d_MD_listSigns_16 : decode M_MD_listSigns.2.1 16 = .ok (.getfield 16, 3) := by decide +kernel
theorem d_MD_listSigns_19 : decode M_MD_listSigns.2.1 19 = .ok (.iload_n 3, 1) := by decide +kernel
theorem d_MD_listSigns_20 : decode M_MD_listSigns.2.1 20 = .ok (.iaload, 1) := by decide +kernel
theorem d_MD_listSigns_21 : decode M_MD_listSigns.2.1 21 = .ok (.iload_n 1, 1) := by decide +kernel
theorem d_MD_listSigns_22 : decode M_MD_listSigns.2.1 22 = .ok (.if_icmp .ne 94, 3) := by decide +kernel
theorem d_MD_listSigns_25 : decode M_MD_listSigns.2.1 25 = .ok (.aload_n 0, 1) := by decide +kernel
theorem d_MD_listSigns_26 : decode M_MD_listSigns.2.1 26 = .ok (.getfield 19, 3) := by decide +kernel
theorem d_MD_listSigns_29 : decode M_MD_listSigns.2.1 29 = .ok (.iload_n 3, 1) := by decide +kernel
theorem d_MD_listSigns_30 : decode M_MD_listSigns.2.1 30 = .ok (.iaload, 1) := by decide +kernel
theorem d_MD_listSigns_31 : decode M_MD_listSigns.2.1 31 = .ok (.iload_n 2, 1) := by decide +kernel
theorem d_MD_listSigns_32 : decode M_MD_listSigns.2.1 32 = .ok (.if_icmp .ne 84, 3) := by decide +kernel
theorem d_MD_listSigns_35 : decode M_MD_listSigns.2.1 35 = .ok (.aload_n 0, 1) := by decide +kernel
theorem d_MD_listSigns_36 : decode M_MD_listSigns.2.1 36 = .ok (.getfield 49, 3) := by decide +kernel
theorem d_MD_listSigns_39 : decode M_MD_listSigns.2.1 39 = .ok (.iload_n 3, 1) := by decide +kernel
theorem d_MD_listSigns_40 : decode M_MD_listSigns.2.1 40 = .ok (.iaload, 1) := by decide +kernel
theorem d_MD_listSigns_41 : decode M_MD_listSigns.2.1 41 = .ok (.ifCond .le 75, 3) := by decide +kernel
theorem d_MD_listSigns_44 : decode M_MD_listSigns.2.1 44 = .ok (.aload_n 0, 1) := by decide +kernel
theorem d_MD_listSigns_45 : decode M_MD_listSigns.2.1 45 = .ok (.getfield 159, 3) := by decide +kernel
theorem d_MD_listSigns_48 : decode M_MD_listSigns.2.1 48 = .ok (.istore 4, 2) := by decide +kernel
theorem d_MD_listSigns_50 : decode M_MD_listSigns.2.1 50 = .ok (.iload 4, 2) := by decide +kernel
theorem d_MD_listSigns_52 : decode M_MD_listSigns.2.1 52 = .ok (.ifCond .le 46, 3) := by decide +kernel
theorem d_MD_listSigns_55 : decode M_MD_listSigns.2.1 55 = .ok (.aload_n 0, 1) := by decide +kernel
theorem d_MD_listSigns_56 : decode M_MD_listSigns.2.1 56 = .ok (.aload_n 0, 1) := by decide +kernel
theorem d_MD_listSigns_57 : decode M_MD_listSigns.2.1 57 = .ok (.getfield 75, 3) := by decide +kernel
theorem d_MD_listSigns_60 : decode M_MD_listSigns.2.1 60 = .ok (.iload 4, 2) := by decide +kernel
theorem d_MD_listSigns_62 : decode M_MD_listSigns.2.1 62 = .ok (.iconst 1, 1) := by decide +kernel
theorem d_MD_listSigns_63 : decode M_MD_listSigns.2.1 63 = .ok (.isub, 1) := by decide +kernel
theorem d_MD_listSigns_64 : decode M_MD_listSigns.2.1 64 = .ok (.iaload, 1) := by decide +kernel
theorem d_MD_listSigns_65 : decode M_MD_listSigns.2.1 65 = .ok (.invokevirtual 153, 3) := by decide +kernel
theorem d_MD_listSigns_68 : decode M_MD_listSigns.2.1 68 = .ok (.aload_n 0, 1) := by decide +kernel
theorem d_MD_listSigns_69 : decode M_MD_listSigns.2.1 69 = .ok (.iload_n 3, 1) := by decide +kernel
theorem d_MD_listSigns_70 : decode M_MD_listSigns.2.1 70 = .ok (.invokevirtual 153, 3) := by decide +kernel
theorem d_MD_listSigns_73 : decode M_MD_listSigns.2.1 73 = .ok (.if_icmp .ge 25, 3) := by decide +kernel
theorem d_MD_listSigns_76 : decode M_MD_listSigns.2.1 76 = .ok (.aload_n 0, 1) := by decide +kernel
theorem d_MD_listSigns_77 : decode M_MD_listSigns.2.1 77 = .ok (.getfield 75, 3) := by decide +kernel
theorem d_MD_listSigns_80 : decode M_MD_listSigns.2.1 80 = .ok (.iload 4, 2) := by decide +kernel
theorem d_MD_listSigns_82 : decode M_MD_listSigns.2.1 82 = .ok (.aload_n 0, 1) := by decide +kernel
theorem d_MD_listSigns_83 : decode M_MD_listSigns.2.1 83 = .ok (.getfield 75, 3) := by decide +kernel
theorem d_MD_listSigns_86 : decode M_MD_listSigns.2.1 86 = .ok (.iload 4, 2) := by decide +kernel
theorem d_MD_listSigns_88 : decode M_MD_listSigns.2.1 88 = .ok (.iconst 1, 1) := by decide +kernel
theorem d_MD_listSigns_89 : decode M_MD_listSigns.2.1 89 = .ok (.isub, 1) := by decide +kernel
theorem d_MD_listSigns_90 : decode M_MD_listSigns.2.1 90 = .ok (.iaload, 1) := by decide +kernel
theorem d_MD_listSigns_91 : decode M_MD_listSigns.2.1 91 = .ok (.iastore, 1) := by decide +kernel
theorem d_MD_listSigns_92 : decode M_MD_listSigns.2.1 92 = .ok (.iinc 4 (-1), 3) := by decide +kernel
theorem d_MD_listSigns_95 : decode M_MD_listSigns.2.1 95 = .ok (.goto (-45), 3) := by decide +kernel
theorem d_MD_listSigns_98 : decode M_MD_listSigns.2.1 98 = .ok (.aload_n 0, 1) := by decide +kernel
theorem d_MD_listSigns_99 : decode M_MD_listSigns.2.1 99 = .ok (.getfield 75, 3) := by decide +kernel
theorem d_MD_listSigns_102 : decode M_MD_listSigns.2.1 102 = .ok (.iload 4, 2) := by decide +kernel
theorem d_MD_listSigns_104 : decode M_MD_listSigns.2.1 104 = .ok (.iload_n 3, 1) := by decide +kernel
theorem d_MD_listSigns_105 : decode M_MD_listSigns.2.1 105 = .ok (.iastore, 1) := by decide +kernel
theorem d_MD_listSigns_106 : decode M_MD_listSigns.2.1 106 = .ok (.aload_n 0, 1) := by decide +kernel
theorem d_MD_listSigns_107 : decode M_MD_listSigns.2.1 107 = .ok (.dup, 1) := by decide +kernel
theorem d_MD_listSigns_108 : decode M_MD_listSigns.2.1 108 = .ok (.getfield 159, 3) := by decide +kernel
theorem d_MD_listSigns_111 : decode M_MD_listSigns.2.1 111 = .ok (.iconst 1, 1) := by decide +kernel
theorem d_MD_listSigns_112 : decode M_MD_listSigns.2.1 112 = .ok (.iadd, 1) := by decide +kernel
theorem d_MD_listSigns_113 : decode M_MD_listSigns.2.1 113 = .ok (.putfield 159, 3) := by decide +kernel
theorem d_MD_listSigns_116 : decode M_MD_listSigns.2.1 116 = .ok (.iinc 3 1, 3) := by decide +kernel
theorem d_MD_listSigns_119 : decode M_MD_listSigns.2.1 119 = .ok (.goto (-112), 3) := by decide +kernel
theorem d_MD_listSigns_122 : decode M_MD_listSigns.2.1 122 = .ok (.iconst 0, 1) := by decide +kernel
theorem d_MD_listSigns_123 : decode M_MD_listSigns.2.1 123 = .ok (.istore_n 3, 1) := by decide +kernel
theorem d_MD_listSigns_124 : decode M_MD_listSigns.2.1 124 = .ok (.iload_n 3, 1) := by decide +kernel
theorem d_MD_listSigns_125 : decode M_MD_listSigns.2.1 125 = .ok (.aload_n 0, 1) := by decide +kernel
theorem d_MD_listSigns_126 : decode M_MD_listSigns.2.1 126 = .ok (.getfield 159, 3) := by decide +kernel
theorem d_MD_listSigns_129 : decode M_MD_listSigns.2.1 129 = .ok (.if_icmp .ge 42, 3) := by decide +kernel
theorem d_MD_listSigns_132 : decode M_MD_listSigns.2.1 132 = .ok (.aload_n 0, 1) := by decide +kernel
theorem d_MD_listSigns_133 : decode M_MD_listSigns.2.1 133 = .ok (.getfield 78, 3) := by decide +kernel
theorem d_MD_listSigns_136 : decode M_MD_listSigns.2.1 136 = .ok (.iload_n 3, 1) := by decide +kernel
theorem d_MD_listSigns_137 : decode M_MD_listSigns.2.1 137 = .ok (.aload_n 0, 1) := by decide +kernel
theorem d_MD_listSigns_138 : decode M_MD_listSigns.2.1 138 = .ok (.getfield 75, 3) := by decide +kernel
theorem d_MD_listSigns_141 : decode M_MD_listSigns.2.1 141 = .ok (.iload_n 3, 1) := by decide +kernel
theorem d_MD_listSigns_142 : decode M_MD_listSigns.2.1 142 = .ok (.iconst 2, 1) := by decide +kernel
theorem d_MD_listSigns_143 : decode M_MD_listSigns.2.1 143 = .ok (.irem, 1) := by decide +kernel
theorem d_MD_listSigns_144 : decode M_MD_listSigns.2.1 144 = .ok (.ifCond .ne 9, 3) := by decide +kernel
theorem d_MD_listSigns_147 : decode M_MD_listSigns.2.1 147 = .ok (.iload_n 3, 1) := by decide +kernel
theorem d_MD_listSigns_148 : decode M_MD_listSigns.2.1 148 = .ok (.iconst 2, 1) := by decide +kernel
theorem d_MD_listSigns_149 : decode M_MD_listSigns.2.1 149 = .ok (.idiv, 1) := by decide +kernel
theorem d_MD_listSigns_150 : decode M_MD_listSigns.2.1 150 = .ok (.goto 13, 3) := by decide +kernel
theorem d_MD_listSigns_153 : decode M_MD_listSigns.2.1 153 = .ok (.aload_n 0, 1) := by decide +kernel
theorem d_MD_listSigns_154 : decode M_MD_listSigns.2.1 154 = .ok (.getfield 159, 3) := by decide +kernel
theorem d_MD_listSigns_157 : decode M_MD_listSigns.2.1 157 = .ok (.iconst 1, 1) := by decide +kernel
theorem d_MD_listSigns_158 : decode M_MD_listSigns.2.1 158 = .ok (.isub, 1) := by decide +kernel
theorem d_MD_listSigns_159 : decode M_MD_listSigns.2.1 159 = .ok (.iload_n 3, 1) := by decide +kernel
theorem d_MD_listSigns_160 : decode M_MD_listSigns.2.1 160 = .ok (.iconst 2, 1) := by decide +kernel
theorem d_MD_listSigns_161 : decode M_MD_listSigns.2.1 161 = .ok (.idiv, 1) := by decide +kernel
theorem d_MD_listSigns_162 : decode M_MD_listSigns.2.1 162 = .ok (.isub, 1) := by decide +kernel
theorem d_MD_listSigns_163 : decode M_MD_listSigns.2.1 163 = .ok (.iaload, 1) := by decide +kernel
theorem d_MD_listSigns_164 : decode M_MD_listSigns.2.1 164 = .ok (.iastore, 1) := by decide +kernel
theorem d_MD_listSigns_165 : decode M_MD_listSigns.2.1 165 = .ok (.iinc 3 1, 3) := by decide +kernel
theorem d_MD_listSigns_168 : decode M_MD_listSigns.2.1 168 = .ok (.goto (-44), 3) := by decide +kernel
theorem d_MD_listSigns_171 : decode M_MD_listSigns.2.1 171 = .ok (.return_, 1) := by decide +kernel
theorem d_MD_widths_0 : decode M_MD_widths.2.1 0 = .ok (.iconst 0, 1) := by decide +kernel
theorem d_MD_widths_1 : decode M_MD_widths.2.1 1 = .ok (.istore_n 3, 1) := by decide +kernel
theorem d_MD_widths_2 : decode M_MD_widths.2.1 2 = .ok (.iconst 0, 1) := by decide +kernel
theorem d_MD_widths_3 : decode M_MD_widths.2.1 3 = .ok (.istore 4, 2) := by decide +kernel
theorem d_MD_widths_5 : decode M_MD_widths.2.1 5 = .ok (.iload 4, 2) := by decide +kernel
theorem d_MD_widths_7 : decode M_MD_widths.2.1 7 = .ok (.iload_n 2, 1) := by decide +kernel
theorem d_MD_widths_8 : decode M_MD_widths.2.1 8 = .ok (.bipush 6, 2) := by decide +kernel
theorem d_MD_widths_10 : decode M_MD_widths.2.1 10 = .ok (.if_icmp .ge 8, 3) := by decide +kernel
theorem d_MD_widths_13 : decode M_MD_widths.2.1 13 = .ok (.bipush 6, 2) := by decide +kernel
theorem d_MD_widths_15 : decode M_MD_widths.2.1 15 = .ok (.goto 4, 3) := by decide +kernel
theorem d_MD_widths_18 : decode M_MD_widths.2.1 18 = .ok (.iload_n 2, 1) := by decide +kernel
theorem d_MD_widths_19 : decode M_MD_widths.2.1 19 = .ok (.if_icmp .ge 74, 3) := by decide +kernel
theorem d_MD_widths_22 : decode M_MD_widths.2.1 22 = .ok (.iconst 0, 1) := by decide +kernel
theorem d_MD_widths_23 : decode M_MD_widths.2.1 23 = .ok (.istore 5, 2) := by decide +kernel
theorem d_MD_widths_25 : decode M_MD_widths.2.1 25 = .ok (.iconst 0, 1) := by decide +kernel
theorem d_MD_widths_26 : decode M_MD_widths.2.1 26 = .ok (.istore 6, 2) := by decide +kernel
theorem d_MD_widths_28 : decode M_MD_widths.2.1 28 = .ok (.iload 6, 2) := by decide +kernel
theorem d_MD_widths_30 : decode M_MD_widths.2.1 30 = .ok (.iload_n 2, 1) := by decide +kernel
theorem d_MD_widths_31 : decode M_MD_widths.2.1 31 = .ok (.if_icmp .ge 51, 3) := by decide +kernel
theorem d_MD_widths_34 : decode M_MD_widths.2.1 34 = .ok (.aload_n 1, 1) := by decide +kernel
theorem d_MD_widths_35 : decode M_MD_widths.2.1 35 = .ok (.iload 6, 2) := by decide +kernel
theorem d_MD_widths_37 : decode M_MD_widths.2.1 37 = .ok (.iaload, 1) := by decide +kernel
theorem d_MD_widths_38 : decode M_MD_widths.2.1 38 = .ok (.iload 4, 2) := by decide +kernel
theorem d_MD_widths_40 : decode M_MD_widths.2.1 40 = .ok (.if_icmp .ne 17, 3) := by decide +kernel
theorem d_MD_widths_43 : decode M_MD_widths.2.1 43 = .ok (.aload_n 0, 1) := by decide +kernel
theorem d_MD_widths_44 : decode M_MD_widths.2.1 44 = .ok (.aload_n 0, 1) := by decide +kernel
theorem d_MD_widths_45 : decode M_MD_widths.2.1 45 = .ok (.getfield 78, 3) := by decide +kernel
theorem d_MD_widths_48 : decode M_MD_widths.2.1 48 = .ok (.iload 6, 2) := by decide +kernel
theorem d_MD_widths_50 : decode M_MD_widths.2.1 50 = .ok (.iaload, 1) := by decide +kernel
theorem d_MD_widths_51 : decode M_MD_widths.2.1 51 = .ok (.invokevirtual 162, 3) := by decide +kernel
theorem d_MD_widths_54 : decode M_MD_widths.2.1 54 = .ok (.goto 4, 3) := by decide +kernel
theorem d_MD_widths_57 : decode M_MD_widths.2.1 57 = .ok (.iconst 0, 1) := by decide +kernel
theorem d_MD_widths_58 : decode M_MD_widths.2.1 58 = .ok (.istore 7, 2) := by decide +kernel
theorem d_MD_widths_60 : decode M_MD_widths.2.1 60 = .ok (.iload 7, 2) := by decide +kernel
theorem d_MD_widths_62 : decode M_MD_widths.2.1 62 = .ok (.iload 5, 2) := by decide +kernel
theorem d_MD_widths_64 : decode M_MD_widths.2.1 64 = .ok (.if_icmp .le 8, 3) := by decide +kernel
theorem d_MD_widths_67 : decode M_MD_widths.2.1 67 = .ok (.iload 7, 2) := by decide +kernel
theorem d_MD_widths_69 : decode M_MD_widths.2.1 69 = .ok (.goto 5, 3) := by decide +kernel
theorem d_MD_widths_72 : decode M_MD_widths.2.1 72 = .ok (.iload 5, 2) := by decide +kernel
theorem d_MD_widths_74 : decode M_MD_widths.2.1 74 = .ok (.istore 5, 2) := by decide +kernel
theorem d_MD_widths_76 : decode M_MD_widths.2.1 76 = .ok (.iinc 6 1, 3) := by decide +kernel
theorem d_MD_widths_79 : decode M_MD_widths.2.1 79 = .ok (.goto (-51), 3) := by decide +kernel
