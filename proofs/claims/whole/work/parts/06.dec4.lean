theorem d_La_cell_0 : decode b_La_cell 0 = .ok (.iload_n 1, 1) := by decide +kernel
theorem d_La_cell_1 : decode b_La_cell 1 = .ok (.aload_n 0, 1) := by decide +kernel
theorem d_La_cell_2 : decode b_La_cell 2 = .ok (.arraylength, 1) := by decide +kernel
theorem d_La_cell_3 : decode b_La_cell 3 = .ok (.if_icmp .ge 9, 3) := by decide +kernel
theorem d_La_cell_6 : decode b_La_cell 6 = .ok (.aload_n 0, 1) := by decide +kernel
theorem d_La_cell_7 : decode b_La_cell 7 = .ok (.iload_n 1, 1) := by decide +kernel
theorem d_La_cell_8 : decode b_La_cell 8 = .ok (.iaload, 1) := by decide +kernel
theorem d_La_cell_9 : decode b_La_cell 9 = .ok (.goto 4, 3) := by decide +kernel
theorem d_La_cell_12 : decode b_La_cell 12 = .ok (.iconst 0, 1) := by decide +kernel
theorem d_La_cell_13 : decode b_La_cell 13 = .ok (.ireturn, 1) := by decide +kernel
theorem d_La_law_0 : decode b_La_law 0 = .ok (.new 7, 3) := by decide +kernel
theorem d_La_law_3 : decode b_La_law 3 = .ok (.dup, 1) := by decide +kernel
theorem d_La_law_4 : decode b_La_law 4 = .ok (.aload_n 0, 1) := by decide +kernel
theorem d_La_law_5 : decode b_La_law 5 = .ok (.iconst 0, 1) := by decide +kernel
theorem d_La_law_6 : decode b_La_law 6 = .ok (.invokestatic 9, 3) := by decide +kernel
theorem d_La_law_9 : decode b_La_law 9 = .ok (.aload_n 0, 1) := by decide +kernel
theorem d_La_law_10 : decode b_La_law 10 = .ok (.iconst 1, 1) := by decide +kernel
theorem d_La_law_11 : decode b_La_law 11 = .ok (.invokestatic 9, 3) := by decide +kernel
theorem d_La_law_14 : decode b_La_law 14 = .ok (.invokespecial 15, 3) := by decide +kernel
theorem d_La_law_17 : decode b_La_law 17 = .ok (.astore_n 1, 1) := by decide +kernel
theorem d_La_law_18 : decode b_La_law 18 = .ok (.new 18, 3) := by decide +kernel
theorem d_La_law_21 : decode b_La_law 21 = .ok (.dup, 1) := by decide +kernel
theorem d_La_law_22 : decode b_La_law 22 = .ok (.aload_n 0, 1) := by decide +kernel
theorem d_La_law_23 : decode b_La_law 23 = .ok (.iconst 0, 1) := by decide +kernel
theorem d_La_law_24 : decode b_La_law 24 = .ok (.invokestatic 9, 3) := by decide +kernel
theorem d_La_law_27 : decode b_La_law 27 = .ok (.aload_n 0, 1) := by decide +kernel
theorem d_La_law_28 : decode b_La_law 28 = .ok (.iconst 1, 1) := by decide +kernel
theorem d_La_law_29 : decode b_La_law 29 = .ok (.invokestatic 9, 3) := by decide +kernel
theorem d_La_law_32 : decode b_La_law 32 = .ok (.invokespecial 20, 3) := by decide +kernel
theorem d_La_law_35 : decode b_La_law 35 = .ok (.astore_n 2, 1) := by decide +kernel
theorem d_La_law_36 : decode b_La_law 36 = .ok (.iconst 2, 1) := by decide +kernel
theorem d_La_law_37 : decode b_La_law 37 = .ok (.istore_n 3, 1) := by decide +kernel
theorem d_La_law_38 : decode b_La_law 38 = .ok (.iload_n 3, 1) := by decide +kernel
theorem d_La_law_39 : decode b_La_law 39 = .ok (.aload_n 0, 1) := by decide +kernel
theorem d_La_law_40 : decode b_La_law 40 = .ok (.arraylength, 1) := by decide +kernel
theorem d_La_law_41 : decode b_La_law 41 = .ok (.iconst 5, 1) := by decide +kernel
theorem d_La_law_42 : decode b_La_law 42 = .ok (.isub, 1) := by decide +kernel
theorem d_La_law_43 : decode b_La_law 43 = .ok (.if_icmp .gt 504, 3) := by decide +kernel
theorem d_La_law_46 : decode b_La_law 46 = .ok (.aload_n 0, 1) := by decide +kernel
theorem d_La_law_47 : decode b_La_law 47 = .ok (.iload_n 3, 1) := by decide +kernel
theorem d_La_law_48 : decode b_La_law 48 = .ok (.iaload, 1) := by decide +kernel
theorem d_La_law_49 : decode b_La_law 49 = .ok (.bipush 15, 2) := by decide +kernel
theorem d_La_law_51 : decode b_La_law 51 = .ok (.iand, 1) := by decide +kernel
theorem d_La_law_52 : decode b_La_law 52 = .ok (.tableswitch 489 0 10 #[60, 83, 136, 189, 228, 271, 294, 327, 360, 403, 456], 60) := by decide +kernel
theorem d_La_law_112 : decode b_La_law 112 = .ok (.aload_n 1, 1) := by decide +kernel
theorem d_La_law_113 : decode b_La_law 113 = .ok (.aload_n 0, 1) := by decide +kernel
theorem d_La_law_114 : decode b_La_law 114 = .ok (.iload_n 3, 1) := by decide +kernel
theorem d_La_law_115 : decode b_La_law 115 = .ok (.iconst 1, 1) := by decide +kernel
theorem d_La_law_116 : decode b_La_law 116 = .ok (.iadd, 1) := by decide +kernel
theorem d_La_law_117 : decode b_La_law 117 = .ok (.iaload, 1) := by decide +kernel
theorem d_La_law_118 : decode b_La_law 118 = .ok (.invokevirtual 21, 3) := by decide +kernel
theorem d_La_law_121 : decode b_La_law 121 = .ok (.aload_n 2, 1) := by decide +kernel
theorem d_La_law_122 : decode b_La_law 122 = .ok (.aload_n 0, 1) := by decide +kernel
theorem d_La_law_123 : decode b_La_law 123 = .ok (.iload_n 3, 1) := by decide +kernel
theorem d_La_law_124 : decode b_La_law 124 = .ok (.iconst 1, 1) := by decide +kernel
theorem d_La_law_125 : decode b_La_law 125 = .ok (.iadd, 1) := by decide +kernel
theorem d_La_law_126 : decode b_La_law 126 = .ok (.iaload, 1) := by decide +kernel
theorem d_La_law_127 : decode b_La_law 127 = .ok (.invokevirtual 25, 3) := by decide +kernel
theorem d_La_law_130 : decode b_La_law 130 = .ok (.if_icmp .eq 411, 3) := by decide +kernel
theorem d_La_law_133 : decode b_La_law 133 = .ok (.iconst 0, 1) := by decide +kernel
theorem d_La_law_134 : decode b_La_law 134 = .ok (.ireturn, 1) := by decide +kernel
theorem d_La_law_135 : decode b_La_law 135 = .ok (.aload_n 1, 1) := by decide +kernel
theorem d_La_law_136 : decode b_La_law 136 = .ok (.aload_n 0, 1) := by decide +kernel
theorem d_La_law_137 : decode b_La_law 137 = .ok (.iload_n 3, 1) := by decide +kernel
theorem d_La_law_138 : decode b_La_law 138 = .ok (.iconst 1, 1) := by decide +kernel
theorem d_La_law_139 : decode b_La_law 139 = .ok (.iadd, 1) := by decide +kernel
theorem d_La_law_140 : decode b_La_law 140 = .ok (.iaload, 1) := by decide +kernel
theorem d_La_law_141 : decode b_La_law 141 = .ok (.aload_n 0, 1) := by decide +kernel
theorem d_La_law_142 : decode b_La_law 142 = .ok (.iload_n 3, 1) := by decide +kernel
theorem d_La_law_143 : decode b_La_law 143 = .ok (.iconst 2, 1) := by decide +kernel
theorem d_La_law_144 : decode b_La_law 144 = .ok (.iadd, 1) := by decide +kernel
theorem d_La_law_145 : decode b_La_law 145 = .ok (.iaload, 1) := by decide +kernel
theorem d_La_law_146 : decode b_La_law 146 = .ok (.aload_n 0, 1) := by decide +kernel
theorem d_La_law_147 : decode b_La_law 147 = .ok (.iload_n 3, 1) := by decide +kernel
theorem d_La_law_148 : decode b_La_law 148 = .ok (.iconst 3, 1) := by decide +kernel
theorem d_La_law_149 : decode b_La_law 149 = .ok (.iadd, 1) := by decide +kernel
theorem d_La_law_150 : decode b_La_law 150 = .ok (.iaload, 1) := by decide +kernel
theorem d_La_law_151 : decode b_La_law 151 = .ok (.aload_n 0, 1) := by decide +kernel
theorem d_La_law_152 : decode b_La_law 152 = .ok (.iload_n 3, 1) := by decide +kernel
theorem d_La_law_153 : decode b_La_law 153 = .ok (.iconst 4, 1) := by decide +kernel
theorem d_La_law_154 : decode b_La_law 154 = .ok (.iadd, 1) := by decide +kernel
theorem d_La_law_155 : decode b_La_law 155 = .ok (.iaload, 1) := by decide +kernel
theorem d_La_law_156 : decode b_La_law 156 = .ok (.invokevirtual 26, 3) := by decide +kernel
theorem d_La_law_159 : decode b_La_law 159 = .ok (.aload_n 2, 1) := by decide +kernel
theorem d_La_law_160 : decode b_La_law 160 = .ok (.aload_n 0, 1) := by decide +kernel
theorem d_La_law_161 : decode b_La_law 161 = .ok (.iload_n 3, 1) := by decide +kernel
theorem d_La_law_162 : decode b_La_law 162 = .ok (.iconst 1, 1) := by decide +kernel
theorem d_La_law_163 : decode b_La_law 163 = .ok (.iadd, 1) := by decide +kernel
theorem d_La_law_164 : decode b_La_law 164 = .ok (.iaload, 1) := by decide +kernel
theorem d_La_law_165 : decode b_La_law 165 = .ok (.aload_n 0, 1) := by decide +kernel
theorem d_La_law_166 : decode b_La_law 166 = .ok (.iload_n 3, 1) := by decide +kernel
theorem d_La_law_167 : decode b_La_law 167 = .ok (.iconst 2, 1) := by decide +kernel
theorem d_La_law_168 : decode b_La_law 168 = .ok (.iadd, 1) := by decide +kernel
theorem d_La_law_169 : decode b_La_law 169 = .ok (.iaload, 1) := by decide +kernel
theorem d_La_law_170 : decode b_La_law 170 = .ok (.aload_n 0, 1) := by decide +kernel
theorem d_La_law_171 : decode b_La_law 171 = .ok (.iload_n 3, 1) := by decide +kernel
theorem d_La_law_172 : decode b_La_law 172 = .ok (.iconst 3, 1) := by decide +kernel
theorem d_La_law_173 : decode b_La_law 173 = .ok (.iadd, 1) := by decide +kernel
theorem d_La_law_174 : decode b_La_law 174 = .ok (.iaload, 1) := by decide +kernel
theorem d_La_law_175 : decode b_La_law 175 = .ok (.aload_n 0, 1) := by decide +kernel
theorem d_La_law_176 : decode b_La_law 176 = .ok (.iload_n 3, 1) := by decide +kernel
theorem d_La_law_177 : decode b_La_law 177 = .ok (.iconst 4, 1) := by decide +kernel
theorem d_La_law_178 : decode b_La_law 178 = .ok (.iadd, 1) := by decide +kernel
theorem d_La_law_179 : decode b_La_law 179 = .ok (.iaload, 1) := by decide +kernel
theorem d_La_law_180 : decode b_La_law 180 = .ok (.invokevirtual 30, 3) := by decide +kernel
theorem d_La_law_183 : decode b_La_law 183 = .ok (.if_icmp .eq 358, 3) := by decide +kernel
theorem d_La_law_186 : decode b_La_law 186 = .ok (.iconst 0, 1) := by decide +kernel
theorem d_La_law_187 : decode b_La_law 187 = .ok (.ireturn, 1) := by decide +kernel
theorem d_La_law_188 : decode b_La_law 188 = .ok (.aload_n 1, 1) := by decide +kernel
theorem d_La_law_189 : decode b_La_law 189 = .ok (.aload_n 0, 1) := by decide +kernel
theorem d_La_law_190 : decode b_La_law 190 = .ok (.iload_n 3, 1) := by decide +kernel
theorem d_La_law_191 : decode b_La_law 191 = .ok (.iconst 1, 1) := by decide +kernel
theorem d_La_law_192 : decode b_La_law 192 = .ok (.iadd, 1) := by decide +kernel
theorem d_La_law_193 : decode b_La_law 193 = .ok (.iaload, 1) := by decide +kernel
theorem d_La_law_194 : decode b_La_law 194 = .ok (.aload_n 0, 1) := by decide +kernel
theorem d_La_law_195 : decode b_La_law 195 = .ok (.iload_n 3, 1) := by decide +kernel
theorem d_La_law_196 : decode b_La_law 196 = .ok (.iconst 2, 1) := by decide +kernel
theorem d_La_law_197 : decode b_La_law 197 = .ok (.iadd, 1) := by decide +kernel
theorem d_La_law_198 : decode b_La_law 198 = .ok (.iaload, 1) := by decide +kernel
theorem d_La_law_199 : decode b_La_law 199 = .ok (.aload_n 0, 1) := by decide +kernel
theorem d_La_law_200 : decode b_La_law 200 = .ok (.iload_n 3, 1) := by decide +kernel
theorem d_La_law_201 : decode b_La_law 201 = .ok (.iconst 3, 1) := by decide +kernel
theorem d_La_law_202 : decode b_La_law 202 = .ok (.iadd, 1) := by decide +kernel
theorem d_La_law_203 : decode b_La_law 203 = .ok (.iaload, 1) := by decide +kernel
theorem d_La_law_204 : decode b_La_law 204 = .ok (.aload_n 0, 1) := by decide +kernel
theorem d_La_law_205 : decode b_La_law 205 = .ok (.iload_n 3, 1) := by decide +kernel
theorem d_La_law_206 : decode b_La_law 206 = .ok (.iconst 4, 1) := by decide +kernel
theorem d_La_law_207 : decode b_La_law 207 = .ok (.iadd, 1) := by decide +kernel
theorem d_La_law_208 : decode b_La_law 208 = .ok (.iaload, 1) := by decide +kernel
theorem d_La_law_209 : decode b_La_law 209 = .ok (.invokevirtual 31, 3) := by decide +kernel
theorem d_La_law_212 : decode b_La_law 212 = .ok (.aload_n 2, 1) := by decide +kernel
theorem d_La_law_213 : decode b_La_law 213 = .ok (.aload_n 0, 1) := by decide +kernel
theorem d_La_law_214 : decode b_La_law 214 = .ok (.iload_n 3, 1) := by decide +kernel
theorem d_La_law_215 : decode b_La_law 215 = .ok (.iconst 1, 1) := by decide +kernel
theorem d_La_law_216 : decode b_La_law 216 = .ok (.iadd, 1) := by decide +kernel
theorem d_La_law_217 : decode b_La_law 217 = .ok (.iaload, 1) := by decide +kernel
theorem d_La_law_218 : decode b_La_law 218 = .ok (.aload_n 0, 1) := by decide +kernel
theorem d_La_law_219 : decode b_La_law 219 = .ok (.iload_n 3, 1) := by decide +kernel
theorem d_La_law_220 : decode b_La_law 220 = .ok (.iconst 2, 1) := by decide +kernel
theorem d_La_law_221 : decode b_La_law 221 = .ok (.iadd, 1) := by decide +kernel
theorem d_La_law_222 : decode b_La_law 222 = .ok (.iaload, 1) := by decide +kernel
theorem d_La_law_223 : decode b_La_law 223 = .ok (.aload_n 0, 1) := by decide +kernel
theorem d_La_law_224 : decode b_La_law 224 = .ok (.iload_n 3, 1) := by decide +kernel
theorem d_La_law_225 : decode b_La_law 225 = .ok (.iconst 3, 1) := by decide +kernel
theorem d_La_law_226 : decode b_La_law 226 = .ok (.iadd, 1) := by decide +kernel
theorem d_La_law_227 : decode b_La_law 227 = .ok (.iaload, 1) := by decide +kernel
theorem d_La_law_228 : decode b_La_law 228 = .ok (.aload_n 0, 1) := by decide +kernel
theorem d_La_law_229 : decode b_La_law 229 = .ok (.iload_n 3, 1) := by decide +kernel
theorem d_La_law_230 : decode b_La_law 230 = .ok (.iconst 4, 1) := by decide +kernel
theorem d_La_law_231 : decode b_La_law 231 = .ok (.iadd, 1) := by decide +kernel
theorem d_La_law_232 : decode b_La_law 232 = .ok (.iaload, 1) := by decide +kernel
theorem d_La_law_233 : decode b_La_law 233 = .ok (.invokevirtual 34, 3) := by decide +kernel
theorem d_La_law_236 : decode b_La_law 236 = .ok (.if_icmp .eq 305, 3) := by decide +kernel
theorem d_La_law_239 : decode b_La_law 239 = .ok (.iconst 0, 1) := by decide +kernel
theorem d_La_law_240 : decode b_La_law 240 = .ok (.ireturn, 1) := by decide +kernel
theorem d_La_law_241 : decode b_La_law 241 = .ok (.aload_n 1, 1) := by decide +kernel
theorem d_La_law_242 : decode b_La_law 242 = .ok (.aload_n 0, 1) := by decide +kernel
theorem d_La_law_243 : decode b_La_law 243 = .ok (.iload_n 3, 1) := by decide +kernel
theorem d_La_law_244 : decode b_La_law 244 = .ok (.iconst 1, 1) := by decide +kernel
theorem d_La_law_245 : decode b_La_law 245 = .ok (.iadd, 1) := by decide +kernel
theorem d_La_law_246 : decode b_La_law 246 = .ok (.iaload, 1) := by decide +kernel
theorem d_La_law_247 : decode b_La_law 247 = .ok (.ifCond .eq 7, 3) := by decide +kernel
theorem d_La_law_250 : decode b_La_law 250 = .ok (.iconst 1, 1) := by decide +kernel
theorem d_La_law_251 : decode b_La_law 251 = .ok (.goto 4, 3) := by decide +kernel
theorem d_La_law_254 : decode b_La_law 254 = .ok (.iconst 0, 1) := by decide +kernel
theorem d_La_law_255 : decode b_La_law 255 = .ok (.invokevirtual 35, 3) := by decide +kernel
theorem d_La_law_258 : decode b_La_law 258 = .ok (.aload_n 2, 1) := by decide +kernel
theorem d_La_law_259 : decode b_La_law 259 = .ok (.aload_n 0, 1) := by decide +kernel
theorem d_La_law_260 : decode b_La_law 260 = .ok (.iload_n 3, 1) := by decide +kernel
theorem d_La_law_261 : decode b_La_law 261 = .ok (.iconst 1, 1) := by decide +kernel
theorem d_La_law_262 : decode b_La_law 262 = .ok (.iadd, 1) := by decide +kernel
theorem d_La_law_263 : decode b_La_law 263 = .ok (.iaload, 1) := by decide +kernel
theorem d_La_law_264 : decode b_La_law 264 = .ok (.ifCond .eq 7, 3) := by decide +kernel
theorem d_La_law_267 : decode b_La_law 267 = .ok (.iconst 1, 1) := by decide +kernel
theorem d_La_law_268 : decode b_La_law 268 = .ok (.goto 4, 3) := by decide +kernel
theorem d_La_law_271 : decode b_La_law 271 = .ok (.iconst 0, 1) := by decide +kernel
theorem d_La_law_272 : decode b_La_law 272 = .ok (.invokevirtual 39, 3) := by decide +kernel
theorem d_La_law_275 : decode b_La_law 275 = .ok (.if_icmp .eq 266, 3) := by decide +kernel
theorem d_La_law_278 : decode b_La_law 278 = .ok (.iconst 0, 1) := by decide +kernel
theorem d_La_law_279 : decode b_La_law 279 = .ok (.ireturn, 1) := by decide +kernel
theorem d_La_law_280 : decode b_La_law 280 = .ok (.aload_n 1, 1) := by decide +kernel
theorem d_La_law_281 : decode b_La_law 281 = .ok (.aload_n 0, 1) := by decide +kernel
theorem d_La_law_282 : decode b_La_law 282 = .ok (.iload_n 3, 1) := by decide +kernel
theorem d_La_law_283 : decode b_La_law 283 = .ok (.iconst 1, 1) := by decide +kernel
theorem d_La_law_284 : decode b_La_law 284 = .ok (.iadd, 1) := by decide +kernel
theorem d_La_law_285 : decode b_La_law 285 = .ok (.iaload, 1) := by decide +kernel
theorem d_La_law_286 : decode b_La_law 286 = .ok (.aload_n 0, 1) := by decide +kernel
theorem d_La_law_287 : decode b_La_law 287 = .ok (.iload_n 3, 1) := by decide +kernel
theorem d_La_law_288 : decode b_La_law 288 = .ok (.iconst 2, 1) := by decide +kernel
theorem d_La_law_289 : decode b_La_law 289 = .ok (.iadd, 1) := by decide +kernel
theorem d_La_law_290 : decode b_La_law 290 = .ok (.iaload, 1) := by decide +kernel
theorem d_La_law_291 : decode b_La_law 291 = .ok (.aload_n 0, 1) := by decide +kernel
theorem d_La_law_292 : decode b_La_law 292 = .ok (.iload_n 3, 1) := by decide +kernel
theorem d_La_law_293 : decode b_La_law 293 = .ok (.iconst 3, 1) := by decide +kernel
theorem d_La_law_294 : decode b_La_law 294 = .ok (.iadd, 1) := by decide +kernel
theorem d_La_law_295 : decode b_La_law 295 = .ok (.iaload, 1) := by decide +kernel
theorem d_La_law_296 : decode b_La_law 296 = .ok (.invokevirtual 40, 3) := by decide +kernel
theorem d_La_law_299 : decode b_La_law 299 = .ok (.aload_n 2, 1) := by decide +kernel
theorem d_La_law_300 : decode b_La_law 300 = .ok (.aload_n 0, 1) := by decide +kernel
theorem d_La_law_301 : decode b_La_law 301 = .ok (.iload_n 3, 1) := by decide +kernel
theorem d_La_law_302 : decode b_La_law 302 = .ok (.iconst 1, 1) := by decide +kernel
theorem d_La_law_303 : decode b_La_law 303 = .ok (.iadd, 1) := by decide +kernel
theorem d_La_law_304 : decode b_La_law 304 = .ok (.iaload, 1) := by decide +kernel
theorem d_La_law_305 : decode b_La_law 305 = .ok (.aload_n 0, 1) := by decide +kernel
theorem d_La_law_306 : decode b_La_law 306 = .ok (.iload_n 3, 1) := by decide +kernel
theorem d_La_law_307 : decode b_La_law 307 = .ok (.iconst 2, 1) := by decide +kernel
theorem d_La_law_308 : decode b_La_law 308 = .ok (.iadd, 1) := by decide +kernel
theorem d_La_law_309 : decode b_La_law 309 = .ok (.iaload, 1) := by decide +kernel
theorem d_La_law_310 : decode b_La_law 310 = .ok (.aload_n 0, 1) := by decide +kernel
theorem d_La_law_311 : decode b_La_law 311 = .ok (.iload_n 3, 1) := by decide +kernel
theorem d_La_law_312 : decode b_La_law 312 = .ok (.iconst 3, 1) := by decide +kernel
theorem d_La_law_313 : decode b_La_law 313 = .ok (.iadd, 1) := by decide +kernel
theorem d_La_law_314 : decode b_La_law 314 = .ok (.iaload, 1) := by decide +kernel
theorem d_La_law_315 : decode b_La_law 315 = .ok (.invokevirtual 44, 3) := by decide +kernel
theorem d_La_law_318 : decode b_La_law 318 = .ok (.if_icmp .eq 223, 3) := by decide +kernel
theorem d_La_law_321 : decode b_La_law 321 = .ok (.iconst 0, 1) := by decide +kernel
theorem d_La_law_322 : decode b_La_law 322 = .ok (.ireturn, 1) := by decide +kernel
theorem d_La_law_323 : decode b_La_law 323 = .ok (.aload_n 1, 1) := by decide +kernel
theorem d_La_law_324 : decode b_La_law 324 = .ok (.aload_n 0, 1) := by decide +kernel
theorem d_La_law_325 : decode b_La_law 325 = .ok (.iload_n 3, 1) := by decide +kernel
theorem d_La_law_326 : decode b_La_law 326 = .ok (.iconst 1, 1) := by decide +kernel
theorem d_La_law_327 : decode b_La_law 327 = .ok (.iadd, 1) := by decide +kernel
theorem d_La_law_328 : decode b_La_law 328 = .ok (.iaload, 1) := by decide +kernel
theorem d_La_law_329 : decode b_La_law 329 = .ok (.invokevirtual 45, 3) := by decide +kernel
theorem d_La_law_332 : decode b_La_law 332 = .ok (.aload_n 2, 1) := by decide +kernel
theorem d_La_law_333 : decode b_La_law 333 = .ok (.aload_n 0, 1) := by decide +kernel
theorem d_La_law_334 : decode b_La_law 334 = .ok (.iload_n 3, 1) := by decide +kernel
theorem d_La_law_335 : decode b_La_law 335 = .ok (.iconst 1, 1) := by decide +kernel
theorem d_La_law_336 : decode b_La_law 336 = .ok (.iadd, 1) := by decide +kernel
theorem d_La_law_337 : decode b_La_law 337 = .ok (.iaload, 1) := by decide +kernel
theorem d_La_law_338 : decode b_La_law 338 = .ok (.invokevirtual 49, 3) := by decide +kernel
theorem d_La_law_341 : decode b_La_law 341 = .ok (.if_icmp .eq 200, 3) := by decide +kernel
theorem d_La_law_344 : decode b_La_law 344 = .ok (.iconst 0, 1) := by decide +kernel
theorem d_La_law_345 : decode b_La_law 345 = .ok (.ireturn, 1) := by decide +kernel
theorem d_La_law_346 : decode b_La_law 346 = .ok (.aload_n 1, 1) := by decide +kernel
theorem d_La_law_347 : decode b_La_law 347 = .ok (.aload_n 0, 1) := by decide +kernel
theorem d_La_law_348 : decode b_La_law 348 = .ok (.iload_n 3, 1) := by decide +kernel
theorem d_La_law_349 : decode b_La_law 349 = .ok (.iconst 1, 1) := by decide +kernel
theorem d_La_law_350 : decode b_La_law 350 = .ok (.iadd, 1) := by decide +kernel
theorem d_La_law_351 : decode b_La_law 351 = .ok (.iaload, 1) := by decide +kernel
theorem d_La_law_352 : decode b_La_law 352 = .ok (.aload_n 0, 1) := by decide +kernel
theorem d_La_law_353 : decode b_La_law 353 = .ok (.iload_n 3, 1) := by decide +kernel
theorem d_La_law_354 : decode b_La_law 354 = .ok (.iconst 2, 1) := by decide +kernel
theorem d_La_law_355 : decode b_La_law 355 = .ok (.iadd, 1) := by decide +kernel
theorem d_La_law_356 : decode b_La_law 356 = .ok (.iaload, 1) := by decide +kernel
theorem d_La_law_357 : decode b_La_law 357 = .ok (.invokevirtual 50, 3) := by decide +kernel
theorem d_La_law_360 : decode b_La_law 360 = .ok (.aload_n 2, 1) := by decide +kernel
theorem d_La_law_361 : decode b_La_law 361 = .ok (.aload_n 0, 1) := by decide +kernel
theorem d_La_law_362 : decode b_La_law 362 = .ok (.iload_n 3, 1) := by decide +kernel
theorem d_La_law_363 : decode b_La_law 363 = .ok (.iconst 1, 1) := by decide +kernel
theorem d_La_law_364 : decode b_La_law 364 = .ok (.iadd, 1) := by decide +kernel
theorem d_La_law_365 : decode b_La_law 365 = .ok (.iaload, 1) := by decide +kernel
theorem d_La_law_366 : decode b_La_law 366 = .ok (.aload_n 0, 1) := by decide +kernel
theorem d_La_law_367 : decode b_La_law 367 = .ok (.iload_n 3, 1) := by decide +kernel
theorem d_La_law_368 : decode b_La_law 368 = .ok (.iconst 2, 1) := by decide +kernel
theorem d_La_law_369 : decode b_La_law 369 = .ok (.iadd, 1) := by decide +kernel
theorem d_La_law_370 : decode b_La_law 370 = .ok (.iaload, 1) := by decide +kernel
theorem d_La_law_371 : decode b_La_law 371 = .ok (.invokevirtual 54, 3) := by decide +kernel
theorem d_La_law_374 : decode b_La_law 374 = .ok (.if_icmp .eq 167, 3) := by decide +kernel
theorem d_La_law_377 : decode b_La_law 377 = .ok (.iconst 0, 1) := by decide +kernel
theorem d_La_law_378 : decode b_La_law 378 = .ok (.ireturn, 1) := by decide +kernel
theorem d_La_law_379 : decode b_La_law 379 = .ok (.aload_n 1, 1) := by decide +kernel
theorem d_La_law_380 : decode b_La_law 380 = .ok (.aload_n 0, 1) := by decide +kernel
theorem d_La_law_381 : decode b_La_law 381 = .ok (.iload_n 3, 1) := by decide +kernel
theorem d_La_law_382 : decode b_La_law 382 = .ok (.iconst 1, 1) := by decide +kernel
theorem d_La_law_383 : decode b_La_law 383 = .ok (.iadd, 1) := by decide +kernel
theorem d_La_law_384 : decode b_La_law 384 = .ok (.iaload, 1) := by decide +kernel
theorem d_La_law_385 : decode b_La_law 385 = .ok (.aload_n 0, 1) := by decide +kernel
theorem d_La_law_386 : decode b_La_law 386 = .ok (.iload_n 3, 1) := by decide +kernel
theorem d_La_law_387 : decode b_La_law 387 = .ok (.iconst 2, 1) := by decide +kernel
theorem d_La_law_388 : decode b_La_law 388 = .ok (.iadd, 1) := by decide +kernel
theorem d_La_law_389 : decode b_La_law 389 = .ok (.iaload, 1) := by decide +kernel
theorem d_La_law_390 : decode b_La_law 390 = .ok (.invokevirtual 55, 3) := by decide +kernel
theorem d_La_law_393 : decode b_La_law 393 = .ok (.aload_n 2, 1) := by decide +kernel
theorem d_La_law_394 : decode b_La_law 394 = .ok (.aload_n 0, 1) := by decide +kernel
theorem d_La_law_395 : decode b_La_law 395 = .ok (.iload_n 3, 1) := by decide +kernel
theorem d_La_law_396 : decode b_La_law 396 = .ok (.iconst 1, 1) := by decide +kernel
theorem d_La_law_397 : decode b_La_law 397 = .ok (.iadd, 1) := by decide +kernel
theorem d_La_law_398 : decode b_La_law 398 = .ok (.iaload, 1) := by decide +kernel
theorem d_La_law_399 : decode b_La_law 399 = .ok (.aload_n 0, 1) := by decide +kernel
theorem d_La_law_400 : decode b_La_law 400 = .ok (.iload_n 3, 1) := by decide +kernel
theorem d_La_law_401 : decode b_La_law 401 = .ok (.iconst 2, 1) := by decide +kernel
theorem d_La_law_402 : decode b_La_law 402 = .ok (.iadd, 1) := by decide +kernel
theorem d_La_law_403 : decode b_La_law 403 = .ok (.iaload, 1) := by decide +kernel
theorem d_La_law_404 : decode b_La_law 404 = .ok (.invokevirtual 58, 3) := by decide +kernel
theorem d_La_law_407 : decode b_La_law 407 = .ok (.if_icmp .eq 134, 3) := by decide +kernel
theorem d_La_law_410 : decode b_La_law 410 = .ok (.iconst 0, 1) := by decide +kernel
theorem d_La_law_411 : decode b_La_law 411 = .ok (.ireturn, 1) := by decide +kernel
theorem d_La_law_412 : decode b_La_law 412 = .ok (.aload_n 1, 1) := by decide +kernel
theorem d_La_law_413 : decode b_La_law 413 = .ok (.aload_n 0, 1) := by decide +kernel
theorem d_La_law_414 : decode b_La_law 414 = .ok (.iload_n 3, 1) := by decide +kernel
theorem d_La_law_415 : decode b_La_law 415 = .ok (.iconst 1, 1) := by decide +kernel
theorem d_La_law_416 : decode b_La_law 416 = .ok (.iadd, 1) := by decide +kernel
theorem d_La_law_417 : decode b_La_law 417 = .ok (.iaload, 1) := by decide +kernel
theorem d_La_law_418 : decode b_La_law 418 = .ok (.aload_n 0, 1) := by decide +kernel
theorem d_La_law_419 : decode b_La_law 419 = .ok (.iload_n 3, 1) := by decide +kernel
theorem d_La_law_420 : decode b_La_law 420 = .ok (.iconst 2, 1) := by decide +kernel
theorem d_La_law_421 : decode b_La_law 421 = .ok (.iadd, 1) := by decide +kernel
theorem d_La_law_422 : decode b_La_law 422 = .ok (.iaload, 1) := by decide +kernel
theorem d_La_law_423 : decode b_La_law 423 = .ok (.aload_n 0, 1) := by decide +kernel
theorem d_La_law_424 : decode b_La_law 424 = .ok (.iload_n 3, 1) := by decide +kernel
theorem d_La_law_425 : decode b_La_law 425 = .ok (.iconst 3, 1) := by decide +kernel
theorem d_La_law_426 : decode b_La_law 426 = .ok (.iadd, 1) := by decide +kernel
theorem d_La_law_427 : decode b_La_law 427 = .ok (.iaload, 1) := by decide +kernel
theorem d_La_law_428 : decode b_La_law 428 = .ok (.invokevirtual 59, 3) := by decide +kernel
theorem d_La_law_431 : decode b_La_law 431 = .ok (.aload_n 2, 1) := by decide +kernel
theorem d_La_law_432 : decode b_La_law 432 = .ok (.aload_n 0, 1) := by decide +kernel
theorem d_La_law_433 : decode b_La_law 433 = .ok (.iload_n 3, 1) := by decide +kernel
theorem d_La_law_434 : decode b_La_law 434 = .ok (.iconst 1, 1) := by decide +kernel
theorem d_La_law_435 : decode b_La_law 435 = .ok (.iadd, 1) := by decide +kernel
theorem d_La_law_436 : decode b_La_law 436 = .ok (.iaload, 1) := by decide +kernel
theorem d_La_law_437 : decode b_La_law 437 = .ok (.aload_n 0, 1) := by decide +kernel
theorem d_La_law_438 : decode b_La_law 438 = .ok (.iload_n 3, 1) := by decide +kernel
theorem d_La_law_439 : decode b_La_law 439 = .ok (.iconst 2, 1) := by decide +kernel
theorem d_La_law_440 : decode b_La_law 440 = .ok (.iadd, 1) := by decide +kernel
theorem d_La_law_441 : decode b_La_law 441 = .ok (.iaload, 1) := by decide +kernel
theorem d_La_law_442 : decode b_La_law 442 = .ok (.aload_n 0, 1) := by decide +kernel
theorem d_La_law_443 : decode b_La_law 443 = .ok (.iload_n 3, 1) := by decide +kernel
theorem d_La_law_444 : decode b_La_law 444 = .ok (.iconst 3, 1) := by decide +kernel
theorem d_La_law_445 : decode b_La_law 445 = .ok (.iadd, 1) := by decide +kernel
theorem d_La_law_446 : decode b_La_law 446 = .ok (.iaload, 1) := by decide +kernel
theorem d_La_law_447 : decode b_La_law 447 = .ok (.invokevirtual 62, 3) := by decide +kernel
theorem d_La_law_450 : decode b_La_law 450 = .ok (.if_icmp .eq 91, 3) := by decide +kernel
theorem d_La_law_453 : decode b_La_law 453 = .ok (.iconst 0, 1) := by decide +kernel
theorem d_La_law_454 : decode b_La_law 454 = .ok (.ireturn, 1) := by decide +kernel
theorem d_La_law_455 : decode b_La_law 455 = .ok (.aload_n 1, 1) := by decide +kernel
theorem d_La_law_456 : decode b_La_law 456 = .ok (.aload_n 0, 1) := by decide +kernel
theorem d_La_law_457 : decode b_La_law 457 = .ok (.iload_n 3, 1) := by decide +kernel
theorem d_La_law_458 : decode b_La_law 458 = .ok (.iconst 1, 1) := by decide +kernel
theorem d_La_law_459 : decode b_La_law 459 = .ok (.iadd, 1) := by decide +kernel
theorem d_La_law_460 : decode b_La_law 460 = .ok (.iaload, 1) := by decide +kernel
theorem d_La_law_461 : decode b_La_law 461 = .ok (.aload_n 0, 1) := by decide +kernel
theorem d_La_law_462 : decode b_La_law 462 = .ok (.iload_n 3, 1) := by decide +kernel
theorem d_La_law_463 : decode b_La_law 463 = .ok (.iconst 2, 1) := by decide +kernel
theorem d_La_law_464 : decode b_La_law 464 = .ok (.iadd, 1) := by decide +kernel
theorem d_La_law_465 : decode b_La_law 465 = .ok (.iaload, 1) := by decide +kernel
theorem d_La_law_466 : decode b_La_law 466 = .ok (.aload_n 0, 1) := by decide +kernel
theorem d_La_law_467 : decode b_La_law 467 = .ok (.iload_n 3, 1) := by decide +kernel
theorem d_La_law_468 : decode b_La_law 468 = .ok (.iconst 3, 1) := by decide +kernel
theorem d_La_law_469 : decode b_La_law 469 = .ok (.iadd, 1) := by decide +kernel
theorem d_La_law_470 : decode b_La_law 470 = .ok (.iaload, 1) := by decide +kernel
theorem d_La_law_471 : decode b_La_law 471 = .ok (.aload_n 0, 1) := by decide +kernel
theorem d_La_law_472 : decode b_La_law 472 = .ok (.iload_n 3, 1) := by decide +kernel
theorem d_La_law_473 : decode b_La_law 473 = .ok (.iconst 4, 1) := by decide +kernel
theorem d_La_law_474 : decode b_La_law 474 = .ok (.iadd, 1) := by decide +kernel
theorem d_La_law_475 : decode b_La_law 475 = .ok (.iaload, 1) := by decide +kernel
theorem d_La_law_476 : decode b_La_law 476 = .ok (.invokevirtual 63, 3) := by decide +kernel
theorem d_La_law_479 : decode b_La_law 479 = .ok (.aload_n 2, 1) := by decide +kernel
theorem d_La_law_480 : decode b_La_law 480 = .ok (.aload_n 0, 1) := by decide +kernel
theorem d_La_law_481 : decode b_La_law 481 = .ok (.iload_n 3, 1) := by decide +kernel
theorem d_La_law_482 : decode b_La_law 482 = .ok (.iconst 1, 1) := by decide +kernel
theorem d_La_law_483 : decode b_La_law 483 = .ok (.iadd, 1) := by decide +kernel
theorem d_La_law_484 : decode b_La_law 484 = .ok (.iaload, 1) := by decide +kernel
theorem d_La_law_485 : decode b_La_law 485 = .ok (.aload_n 0, 1) := by decide +kernel
theorem d_La_law_486 : decode b_La_law 486 = .ok (.iload_n 3, 1) := by decide +kernel
theorem d_La_law_487 : decode b_La_law 487 = .ok (.iconst 2, 1) := by decide +kernel
theorem d_La_law_488 : decode b_La_law 488 = .ok (.iadd, 1) := by decide +kernel
theorem d_La_law_489 : decode b_La_law 489 = .ok (.iaload, 1) := by decide +kernel
theorem d_La_law_490 : decode b_La_law 490 = .ok (.aload_n 0, 1) := by decide +kernel
theorem d_La_law_491 : decode b_La_law 491 = .ok (.iload_n 3, 1) := by decide +kernel
theorem d_La_law_492 : decode b_La_law 492 = .ok (.iconst 3, 1) := by decide +kernel
theorem d_La_law_493 : decode b_La_law 493 = .ok (.iadd, 1) := by decide +kernel
theorem d_La_law_494 : decode b_La_law 494 = .ok (.iaload, 1) := by decide +kernel
theorem d_La_law_495 : decode b_La_law 495 = .ok (.aload_n 0, 1) := by decide +kernel
theorem d_La_law_496 : decode b_La_law 496 = .ok (.iload_n 3, 1) := by decide +kernel
theorem d_La_law_497 : decode b_La_law 497 = .ok (.iconst 4, 1) := by decide +kernel
theorem d_La_law_498 : decode b_La_law 498 = .ok (.iadd, 1) := by decide +kernel
theorem d_La_law_499 : decode b_La_law 499 = .ok (.iaload, 1) := by decide +kernel
theorem d_La_law_500 : decode b_La_law 500 = .ok (.invokevirtual 67, 3) := by decide +kernel
theorem d_La_law_503 : decode b_La_law 503 = .ok (.if_icmp .eq 38, 3) := by decide +kernel
theorem d_La_law_506 : decode b_La_law 506 = .ok (.iconst 0, 1) := by decide +kernel
theorem d_La_law_507 : decode b_La_law 507 = .ok (.ireturn, 1) := by decide +kernel
theorem d_La_law_508 : decode b_La_law 508 = .ok (.aload_n 1, 1) := by decide +kernel
theorem d_La_law_509 : decode b_La_law 509 = .ok (.aload_n 0, 1) := by decide +kernel
theorem d_La_law_510 : decode b_La_law 510 = .ok (.iload_n 3, 1) := by decide +kernel
theorem d_La_law_511 : decode b_La_law 511 = .ok (.iconst 1, 1) := by decide +kernel
theorem d_La_law_512 : decode b_La_law 512 = .ok (.iadd, 1) := by decide +kernel
theorem d_La_law_513 : decode b_La_law 513 = .ok (.iaload, 1) := by decide +kernel
theorem d_La_law_514 : decode b_La_law 514 = .ok (.aload_n 0, 1) := by decide +kernel
theorem d_La_law_515 : decode b_La_law 515 = .ok (.iload_n 3, 1) := by decide +kernel
theorem d_La_law_516 : decode b_La_law 516 = .ok (.iconst 2, 1) := by decide +kernel
theorem d_La_law_517 : decode b_La_law 517 = .ok (.iadd, 1) := by decide +kernel
theorem d_La_law_518 : decode b_La_law 518 = .ok (.iaload, 1) := by decide +kernel
theorem d_La_law_519 : decode b_La_law 519 = .ok (.invokevirtual 68, 3) := by decide +kernel
theorem d_La_law_522 : decode b_La_law 522 = .ok (.aload_n 2, 1) := by decide +kernel
theorem d_La_law_523 : decode b_La_law 523 = .ok (.aload_n 0, 1) := by decide +kernel
theorem d_La_law_524 : decode b_La_law 524 = .ok (.iload_n 3, 1) := by decide +kernel
theorem d_La_law_525 : decode b_La_law 525 = .ok (.iconst 1, 1) := by decide +kernel
theorem d_La_law_526 : decode b_La_law 526 = .ok (.iadd, 1) := by decide +kernel
theorem d_La_law_527 : decode b_La_law 527 = .ok (.iaload, 1) := by decide +kernel
theorem d_La_law_528 : decode b_La_law 528 = .ok (.aload_n 0, 1) := by decide +kernel
theorem d_La_law_529 : decode b_La_law 529 = .ok (.iload_n 3, 1) := by decide +kernel
theorem d_La_law_530 : decode b_La_law 530 = .ok (.iconst 2, 1) := by decide +kernel
theorem d_La_law_531 : decode b_La_law 531 = .ok (.iadd, 1) := by decide +kernel
theorem d_La_law_532 : decode b_La_law 532 = .ok (.iaload, 1) := by decide +kernel
theorem d_La_law_533 : decode b_La_law 533 = .ok (.invokevirtual 71, 3) := by decide +kernel
theorem d_La_law_536 : decode b_La_law 536 = .ok (.if_icmp .eq 5, 3) := by decide +kernel
theorem d_La_law_539 : decode b_La_law 539 = .ok (.iconst 0, 1) := by decide +kernel
theorem d_La_law_540 : decode b_La_law 540 = .ok (.ireturn, 1) := by decide +kernel
theorem d_La_law_541 : decode b_La_law 541 = .ok (.iinc 3 5, 3) := by decide +kernel
theorem d_La_law_544 : decode b_La_law 544 = .ok (.goto (-506), 3) := by decide +kernel
theorem d_La_law_547 : decode b_La_law 547 = .ok (.iconst 1, 1) := by decide +kernel
theorem d_La_law_548 : decode b_La_law 548 = .ok (.ireturn, 1) := by decide +kernel
