theorem nD_L_law_0 : decode nC_L_law 0 = .ok (.new 7, 3) := by decide +kernel
theorem nD_L_law_3 : decode nC_L_law 3 = .ok (.dup, 1) := by decide +kernel
theorem nD_L_law_4 : decode nC_L_law 4 = .ok (.aload_n 0, 1) := by decide +kernel
theorem nD_L_law_5 : decode nC_L_law 5 = .ok (.iconst 0, 1) := by decide +kernel
theorem nD_L_law_6 : decode nC_L_law 6 = .ok (.invokestatic 9, 3) := by decide +kernel
theorem nD_L_law_9 : decode nC_L_law 9 = .ok (.aload_n 0, 1) := by decide +kernel
theorem nD_L_law_10 : decode nC_L_law 10 = .ok (.iconst 1, 1) := by decide +kernel
theorem nD_L_law_11 : decode nC_L_law 11 = .ok (.invokestatic 9, 3) := by decide +kernel
theorem nD_L_law_14 : decode nC_L_law 14 = .ok (.invokespecial 15, 3) := by decide +kernel
theorem nD_L_law_17 : decode nC_L_law 17 = .ok (.astore_n 1, 1) := by decide +kernel
theorem nD_L_law_18 : decode nC_L_law 18 = .ok (.new 18, 3) := by decide +kernel
theorem nD_L_law_21 : decode nC_L_law 21 = .ok (.dup, 1) := by decide +kernel
theorem nD_L_law_22 : decode nC_L_law 22 = .ok (.aload_n 0, 1) := by decide +kernel
theorem nD_L_law_23 : decode nC_L_law 23 = .ok (.iconst 0, 1) := by decide +kernel
theorem nD_L_law_24 : decode nC_L_law 24 = .ok (.invokestatic 9, 3) := by decide +kernel
theorem nD_L_law_27 : decode nC_L_law 27 = .ok (.aload_n 0, 1) := by decide +kernel
theorem nD_L_law_28 : decode nC_L_law 28 = .ok (.iconst 1, 1) := by decide +kernel
theorem nD_L_law_29 : decode nC_L_law 29 = .ok (.invokestatic 9, 3) := by decide +kernel
theorem nD_L_law_32 : decode nC_L_law 32 = .ok (.invokespecial 20, 3) := by decide +kernel
theorem nD_L_law_35 : decode nC_L_law 35 = .ok (.astore_n 2, 1) := by decide +kernel
theorem nD_L_law_36 : decode nC_L_law 36 = .ok (.iconst 2, 1) := by decide +kernel
theorem nD_L_law_37 : decode nC_L_law 37 = .ok (.istore_n 3, 1) := by decide +kernel
theorem nD_L_law_38 : decode nC_L_law 38 = .ok (.iload_n 3, 1) := by decide +kernel
theorem nD_L_law_39 : decode nC_L_law 39 = .ok (.aload_n 0, 1) := by decide +kernel
theorem nD_L_law_40 : decode nC_L_law 40 = .ok (.arraylength, 1) := by decide +kernel
theorem nD_L_law_41 : decode nC_L_law 41 = .ok (.iconst 3, 1) := by decide +kernel
theorem nD_L_law_42 : decode nC_L_law 42 = .ok (.isub, 1) := by decide +kernel
theorem nD_L_law_43 : decode nC_L_law 43 = .ok (.if_icmp .gt 475, 3) := by decide +kernel
theorem nD_L_law_46 : decode nC_L_law 46 = .ok (.aload_n 0, 1) := by decide +kernel
theorem nD_L_law_47 : decode nC_L_law 47 = .ok (.iload_n 3, 1) := by decide +kernel
theorem nD_L_law_48 : decode nC_L_law 48 = .ok (.iaload, 1) := by decide +kernel
theorem nD_L_law_49 : decode nC_L_law 49 = .ok (.bipush 31, 2) := by decide +kernel
theorem nD_L_law_51 : decode nC_L_law 51 = .ok (.iand, 1) := by decide +kernel
theorem nD_L_law_52 : decode nC_L_law 52 = .ok (.tableswitch 460 0 16 #[84, 115, 148, 171, 220, 253, 276, 289, 302, 315, 328, 342, 355, 368, 381, 414, 437], 84) := by decide +kernel
theorem nD_L_law_136 : decode nC_L_law 136 = .ok (.aload_n 1, 1) := by decide +kernel
theorem nD_L_law_137 : decode nC_L_law 137 = .ok (.aload_n 0, 1) := by decide +kernel
theorem nD_L_law_138 : decode nC_L_law 138 = .ok (.iload_n 3, 1) := by decide +kernel
theorem nD_L_law_139 : decode nC_L_law 139 = .ok (.iconst 1, 1) := by decide +kernel
theorem nD_L_law_140 : decode nC_L_law 140 = .ok (.iadd, 1) := by decide +kernel
theorem nD_L_law_141 : decode nC_L_law 141 = .ok (.iaload, 1) := by decide +kernel
theorem nD_L_law_142 : decode nC_L_law 142 = .ok (.aload_n 0, 1) := by decide +kernel
theorem nD_L_law_143 : decode nC_L_law 143 = .ok (.iload_n 3, 1) := by decide +kernel
theorem nD_L_law_144 : decode nC_L_law 144 = .ok (.iconst 2, 1) := by decide +kernel
theorem nD_L_law_145 : decode nC_L_law 145 = .ok (.iadd, 1) := by decide +kernel
theorem nD_L_law_146 : decode nC_L_law 146 = .ok (.iaload, 1) := by decide +kernel
theorem nD_L_law_147 : decode nC_L_law 147 = .ok (.invokevirtual 21, 3) := by decide +kernel
theorem nD_L_law_150 : decode nC_L_law 150 = .ok (.aload_n 2, 1) := by decide +kernel
theorem nD_L_law_151 : decode nC_L_law 151 = .ok (.aload_n 0, 1) := by decide +kernel
theorem nD_L_law_152 : decode nC_L_law 152 = .ok (.iload_n 3, 1) := by decide +kernel
theorem nD_L_law_153 : decode nC_L_law 153 = .ok (.iconst 1, 1) := by decide +kernel
theorem nD_L_law_154 : decode nC_L_law 154 = .ok (.iadd, 1) := by decide +kernel
theorem nD_L_law_155 : decode nC_L_law 155 = .ok (.iaload, 1) := by decide +kernel
theorem nD_L_law_156 : decode nC_L_law 156 = .ok (.aload_n 0, 1) := by decide +kernel
theorem nD_L_law_157 : decode nC_L_law 157 = .ok (.iload_n 3, 1) := by decide +kernel
theorem nD_L_law_158 : decode nC_L_law 158 = .ok (.iconst 2, 1) := by decide +kernel
theorem nD_L_law_159 : decode nC_L_law 159 = .ok (.iadd, 1) := by decide +kernel
theorem nD_L_law_160 : decode nC_L_law 160 = .ok (.iaload, 1) := by decide +kernel
theorem nD_L_law_161 : decode nC_L_law 161 = .ok (.invokevirtual 24, 3) := by decide +kernel
theorem nD_L_law_164 : decode nC_L_law 164 = .ok (.goto 348, 3) := by decide +kernel
theorem nD_L_law_167 : decode nC_L_law 167 = .ok (.aload_n 1, 1) := by decide +kernel
theorem nD_L_law_168 : decode nC_L_law 168 = .ok (.aload_n 0, 1) := by decide +kernel
theorem nD_L_law_169 : decode nC_L_law 169 = .ok (.iload_n 3, 1) := by decide +kernel
theorem nD_L_law_170 : decode nC_L_law 170 = .ok (.iconst 1, 1) := by decide +kernel
theorem nD_L_law_171 : decode nC_L_law 171 = .ok (.iadd, 1) := by decide +kernel
theorem nD_L_law_172 : decode nC_L_law 172 = .ok (.iaload, 1) := by decide +kernel
theorem nD_L_law_173 : decode nC_L_law 173 = .ok (.aload_n 0, 1) := by decide +kernel
theorem nD_L_law_174 : decode nC_L_law 174 = .ok (.iload_n 3, 1) := by decide +kernel
theorem nD_L_law_175 : decode nC_L_law 175 = .ok (.iconst 2, 1) := by decide +kernel
theorem nD_L_law_176 : decode nC_L_law 176 = .ok (.iadd, 1) := by decide +kernel
theorem nD_L_law_177 : decode nC_L_law 177 = .ok (.iaload, 1) := by decide +kernel
theorem nD_L_law_178 : decode nC_L_law 178 = .ok (.invokevirtual 25, 3) := by decide +kernel
theorem nD_L_law_181 : decode nC_L_law 181 = .ok (.aload_n 2, 1) := by decide +kernel
theorem nD_L_law_182 : decode nC_L_law 182 = .ok (.aload_n 0, 1) := by decide +kernel
theorem nD_L_law_183 : decode nC_L_law 183 = .ok (.iload_n 3, 1) := by decide +kernel
theorem nD_L_law_184 : decode nC_L_law 184 = .ok (.iconst 1, 1) := by decide +kernel
theorem nD_L_law_185 : decode nC_L_law 185 = .ok (.iadd, 1) := by decide +kernel
theorem nD_L_law_186 : decode nC_L_law 186 = .ok (.iaload, 1) := by decide +kernel
theorem nD_L_law_187 : decode nC_L_law 187 = .ok (.aload_n 0, 1) := by decide +kernel
theorem nD_L_law_188 : decode nC_L_law 188 = .ok (.iload_n 3, 1) := by decide +kernel
theorem nD_L_law_189 : decode nC_L_law 189 = .ok (.iconst 2, 1) := by decide +kernel
theorem nD_L_law_190 : decode nC_L_law 190 = .ok (.iadd, 1) := by decide +kernel
theorem nD_L_law_191 : decode nC_L_law 191 = .ok (.iaload, 1) := by decide +kernel
theorem nD_L_law_192 : decode nC_L_law 192 = .ok (.invokevirtual 29, 3) := by decide +kernel
theorem nD_L_law_195 : decode nC_L_law 195 = .ok (.if_icmp .eq 317, 3) := by decide +kernel
theorem nD_L_law_198 : decode nC_L_law 198 = .ok (.iconst 0, 1) := by decide +kernel
theorem nD_L_law_199 : decode nC_L_law 199 = .ok (.ireturn, 1) := by decide +kernel
theorem nD_L_law_200 : decode nC_L_law 200 = .ok (.aload_n 1, 1) := by decide +kernel
theorem nD_L_law_201 : decode nC_L_law 201 = .ok (.aload_n 0, 1) := by decide +kernel
theorem nD_L_law_202 : decode nC_L_law 202 = .ok (.iload_n 3, 1) := by decide +kernel
theorem nD_L_law_203 : decode nC_L_law 203 = .ok (.iconst 1, 1) := by decide +kernel
theorem nD_L_law_204 : decode nC_L_law 204 = .ok (.iadd, 1) := by decide +kernel
theorem nD_L_law_205 : decode nC_L_law 205 = .ok (.iaload, 1) := by decide +kernel
theorem nD_L_law_206 : decode nC_L_law 206 = .ok (.invokevirtual 30, 3) := by decide +kernel
theorem nD_L_law_209 : decode nC_L_law 209 = .ok (.aload_n 2, 1) := by decide +kernel
theorem nD_L_law_210 : decode nC_L_law 210 = .ok (.aload_n 0, 1) := by decide +kernel
theorem nD_L_law_211 : decode nC_L_law 211 = .ok (.iload_n 3, 1) := by decide +kernel
theorem nD_L_law_212 : decode nC_L_law 212 = .ok (.iconst 1, 1) := by decide +kernel
theorem nD_L_law_213 : decode nC_L_law 213 = .ok (.iadd, 1) := by decide +kernel
theorem nD_L_law_214 : decode nC_L_law 214 = .ok (.iaload, 1) := by decide +kernel
theorem nD_L_law_215 : decode nC_L_law 215 = .ok (.invokevirtual 34, 3) := by decide +kernel
theorem nD_L_law_218 : decode nC_L_law 218 = .ok (.if_icmp .eq 294, 3) := by decide +kernel
theorem nD_L_law_221 : decode nC_L_law 221 = .ok (.iconst 0, 1) := by decide +kernel
theorem nD_L_law_222 : decode nC_L_law 222 = .ok (.ireturn, 1) := by decide +kernel
theorem nD_L_law_223 : decode nC_L_law 223 = .ok (.aload_n 1, 1) := by decide +kernel
theorem nD_L_law_224 : decode nC_L_law 224 = .ok (.aload_n 0, 1) := by decide +kernel
theorem nD_L_law_225 : decode nC_L_law 225 = .ok (.iload_n 3, 1) := by decide +kernel
theorem nD_L_law_226 : decode nC_L_law 226 = .ok (.iconst 1, 1) := by decide +kernel
theorem nD_L_law_227 : decode nC_L_law 227 = .ok (.iadd, 1) := by decide +kernel
theorem nD_L_law_228 : decode nC_L_law 228 = .ok (.iaload, 1) := by decide +kernel
theorem nD_L_law_229 : decode nC_L_law 229 = .ok (.aload_n 0, 1) := by decide +kernel
theorem nD_L_law_230 : decode nC_L_law 230 = .ok (.iload_n 3, 1) := by decide +kernel
theorem nD_L_law_231 : decode nC_L_law 231 = .ok (.iconst 2, 1) := by decide +kernel
theorem nD_L_law_232 : decode nC_L_law 232 = .ok (.iadd, 1) := by decide +kernel
theorem nD_L_law_233 : decode nC_L_law 233 = .ok (.iaload, 1) := by decide +kernel
theorem nD_L_law_234 : decode nC_L_law 234 = .ok (.ifCond .eq 7, 3) := by decide +kernel
theorem nD_L_law_237 : decode nC_L_law 237 = .ok (.iconst 1, 1) := by decide +kernel
theorem nD_L_law_238 : decode nC_L_law 238 = .ok (.goto 4, 3) := by decide +kernel
theorem nD_L_law_241 : decode nC_L_law 241 = .ok (.iconst 0, 1) := by decide +kernel
theorem nD_L_law_242 : decode nC_L_law 242 = .ok (.invokevirtual 35, 3) := by decide +kernel
theorem nD_L_law_245 : decode nC_L_law 245 = .ok (.aload_n 2, 1) := by decide +kernel
theorem nD_L_law_246 : decode nC_L_law 246 = .ok (.aload_n 0, 1) := by decide +kernel
theorem nD_L_law_247 : decode nC_L_law 247 = .ok (.iload_n 3, 1) := by decide +kernel
theorem nD_L_law_248 : decode nC_L_law 248 = .ok (.iconst 1, 1) := by decide +kernel
theorem nD_L_law_249 : decode nC_L_law 249 = .ok (.iadd, 1) := by decide +kernel
theorem nD_L_law_250 : decode nC_L_law 250 = .ok (.iaload, 1) := by decide +kernel
theorem nD_L_law_251 : decode nC_L_law 251 = .ok (.aload_n 0, 1) := by decide +kernel
theorem nD_L_law_252 : decode nC_L_law 252 = .ok (.iload_n 3, 1) := by decide +kernel
theorem nD_L_law_253 : decode nC_L_law 253 = .ok (.iconst 2, 1) := by decide +kernel
theorem nD_L_law_254 : decode nC_L_law 254 = .ok (.iadd, 1) := by decide +kernel
theorem nD_L_law_255 : decode nC_L_law 255 = .ok (.iaload, 1) := by decide +kernel
theorem nD_L_law_256 : decode nC_L_law 256 = .ok (.ifCond .eq 7, 3) := by decide +kernel
theorem nD_L_law_259 : decode nC_L_law 259 = .ok (.iconst 1, 1) := by decide +kernel
theorem nD_L_law_260 : decode nC_L_law 260 = .ok (.goto 4, 3) := by decide +kernel
theorem nD_L_law_263 : decode nC_L_law 263 = .ok (.iconst 0, 1) := by decide +kernel
theorem nD_L_law_264 : decode nC_L_law 264 = .ok (.invokevirtual 39, 3) := by decide +kernel
theorem nD_L_law_267 : decode nC_L_law 267 = .ok (.if_icmp .eq 245, 3) := by decide +kernel
theorem nD_L_law_270 : decode nC_L_law 270 = .ok (.iconst 0, 1) := by decide +kernel
theorem nD_L_law_271 : decode nC_L_law 271 = .ok (.ireturn, 1) := by decide +kernel
theorem nD_L_law_272 : decode nC_L_law 272 = .ok (.aload_n 1, 1) := by decide +kernel
theorem nD_L_law_273 : decode nC_L_law 273 = .ok (.aload_n 0, 1) := by decide +kernel
theorem nD_L_law_274 : decode nC_L_law 274 = .ok (.iload_n 3, 1) := by decide +kernel
theorem nD_L_law_275 : decode nC_L_law 275 = .ok (.iconst 1, 1) := by decide +kernel
theorem nD_L_law_276 : decode nC_L_law 276 = .ok (.iadd, 1) := by decide +kernel
theorem nD_L_law_277 : decode nC_L_law 277 = .ok (.iaload, 1) := by decide +kernel
theorem nD_L_law_278 : decode nC_L_law 278 = .ok (.aload_n 0, 1) := by decide +kernel
theorem nD_L_law_279 : decode nC_L_law 279 = .ok (.iload_n 3, 1) := by decide +kernel
theorem nD_L_law_280 : decode nC_L_law 280 = .ok (.iconst 2, 1) := by decide +kernel
theorem nD_L_law_281 : decode nC_L_law 281 = .ok (.iadd, 1) := by decide +kernel
theorem nD_L_law_282 : decode nC_L_law 282 = .ok (.iaload, 1) := by decide +kernel
theorem nD_L_law_283 : decode nC_L_law 283 = .ok (.invokevirtual 40, 3) := by decide +kernel
theorem nD_L_law_286 : decode nC_L_law 286 = .ok (.aload_n 2, 1) := by decide +kernel
theorem nD_L_law_287 : decode nC_L_law 287 = .ok (.aload_n 0, 1) := by decide +kernel
theorem nD_L_law_288 : decode nC_L_law 288 = .ok (.iload_n 3, 1) := by decide +kernel
theorem nD_L_law_289 : decode nC_L_law 289 = .ok (.iconst 1, 1) := by decide +kernel
theorem nD_L_law_290 : decode nC_L_law 290 = .ok (.iadd, 1) := by decide +kernel
theorem nD_L_law_291 : decode nC_L_law 291 = .ok (.iaload, 1) := by decide +kernel
theorem nD_L_law_292 : decode nC_L_law 292 = .ok (.aload_n 0, 1) := by decide +kernel
theorem nD_L_law_293 : decode nC_L_law 293 = .ok (.iload_n 3, 1) := by decide +kernel
theorem nD_L_law_294 : decode nC_L_law 294 = .ok (.iconst 2, 1) := by decide +kernel
theorem nD_L_law_295 : decode nC_L_law 295 = .ok (.iadd, 1) := by decide +kernel
