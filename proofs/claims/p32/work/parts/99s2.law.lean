/-! THE LAW: its instructions, printed -/
theorem lz_d_212 : decode code 212 = .ok (.goto 51, 3) := by decide +kernel
theorem lz_d_215 : decode code 215 = .ok (.iload 7, 2) := by decide +kernel
theorem lz_d_217 : decode code 217 = .ok (.iconst 3, 1) := by decide +kernel
theorem lz_d_218 : decode code 218 = .ok (.invokestatic 46, 3) := by decide +kernel
theorem lz_d_221 : decode code 221 = .ok (.ifCond .le 13, 3) := by decide +kernel
theorem lz_d_224 : decode code 224 = .ok (.aload_n 1, 1) := by decide +kernel
theorem lz_d_225 : decode code 225 = .ok (.aload_n 2, 1) := by decide +kernel
theorem lz_d_226 : decode code 226 = .ok (.aload 5, 2) := by decide +kernel
theorem lz_d_228 : decode code 228 = .ok (.invokestatic 132, 3) := by decide +kernel
theorem lz_d_231 : decode code 231 = .ok (.goto 13, 3) := by decide +kernel
theorem lz_d_234 : decode code 234 = .ok (.aload_n 1, 1) := by decide +kernel
theorem lz_d_235 : decode code 235 = .ok (.aload_n 2, 1) := by decide +kernel
theorem lz_d_236 : decode code 236 = .ok (.aload_n 3, 1) := by decide +kernel
theorem lz_d_237 : decode code 237 = .ok (.aload 5, 2) := by decide +kernel
theorem lz_d_239 : decode code 239 = .ok (.iload 7, 2) := by decide +kernel
theorem lz_d_241 : decode code 241 = .ok (.invokestatic 136, 3) := by decide +kernel
theorem lz_d_244 : decode code 244 = .ok (.istore 8, 2) := by decide +kernel
theorem lz_d_246 : decode code 246 = .ok (.goto 17, 3) := by decide +kernel
theorem lz_d_249 : decode code 249 = .ok (.aload_n 1, 1) := by decide +kernel
theorem lz_d_250 : decode code 250 = .ok (.aload_n 2, 1) := by decide +kernel
theorem lz_d_251 : decode code 251 = .ok (.aload_n 3, 1) := by decide +kernel
theorem lz_d_252 : decode code 252 = .ok (.aload 4, 2) := by decide +kernel
theorem lz_d_254 : decode code 254 = .ok (.aload 5, 2) := by decide +kernel
theorem lz_d_256 : decode code 256 = .ok (.iload 7, 2) := by decide +kernel
theorem lz_d_258 : decode code 258 = .ok (.invokestatic 139, 3) := by decide +kernel
theorem lz_d_261 : decode code 261 = .ok (.istore 8, 2) := by decide +kernel
theorem lz_d_263 : decode code 263 = .ok (.iload 8, 2) := by decide +kernel
theorem lz_d_265 : decode code 265 = .ok (.ifCond .eq 28, 3) := by decide +kernel
theorem lz_d_268 : decode code 268 = .ok (.aload_n 1, 1) := by decide +kernel
theorem lz_d_269 : decode code 269 = .ok (.aload_n 2, 1) := by decide +kernel
theorem lz_d_270 : decode code 270 = .ok (.aload_n 3, 1) := by decide +kernel
theorem lz_d_271 : decode code 271 = .ok (.aload 4, 2) := by decide +kernel
theorem lz_d_273 : decode code 273 = .ok (.aload 5, 2) := by decide +kernel
theorem lz_d_275 : decode code 275 = .ok (.invokestatic 142, 3) := by decide +kernel
theorem lz_d_278 : decode code 278 = .ok (.ifCond .eq 15, 3) := by decide +kernel
theorem lz_d_281 : decode code 281 = .ok (.aload_n 1, 1) := by decide +kernel
theorem lz_d_282 : decode code 282 = .ok (.aload_n 2, 1) := by decide +kernel
theorem lz_d_283 : decode code 283 = .ok (.aload 4, 2) := by decide +kernel
theorem lz_d_285 : decode code 285 = .ok (.aload 5, 2) := by decide +kernel
theorem lz_d_287 : decode code 287 = .ok (.invokestatic 146, 3) := by decide +kernel
theorem lz_d_290 : decode code 290 = .ok (.ifCond .ne 5, 3) := by decide +kernel
theorem lz_d_293 : decode code 293 = .ok (.iconst 0, 1) := by decide +kernel
theorem lz_d_294 : decode code 294 = .ok (.ireturn, 1) := by decide +kernel
theorem lz_d_295 : decode code 295 = .ok (.iinc 6 1, 3) := by decide +kernel
theorem lz_d_298 : decode code 298 = .ok (.goto (-233), 3) := by decide +kernel
theorem lz_d_301 : decode code 301 = .ok (.iconst 1, 1) := by decide +kernel
theorem lz_d_302 : decode code 302 = .ok (.ireturn, 1) := by decide +kernel
