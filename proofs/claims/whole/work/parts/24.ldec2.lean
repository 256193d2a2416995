theorem d_Lw_law_244 : decode code 244 = .ok (.iaload, 1) := by decide +kernel
theorem d_Lw_law_245 : decode code 245 = .ok (.invokevirtual 35, 3) := by decide +kernel
theorem d_Lw_law_248 : decode code 248 = .ok (.if_icmp .eq (313), 3) := by decide +kernel
theorem d_Lw_law_251 : decode code 251 = .ok (.iconst 0, 1) := by decide +kernel
theorem d_Lw_law_252 : decode code 252 = .ok (.ireturn, 1) := by decide +kernel
theorem d_Lw_law_253 : decode code 253 = .ok (.aload_n 1, 1) := by decide +kernel
theorem d_Lw_law_254 : decode code 254 = .ok (.aload_n 0, 1) := by decide +kernel
theorem d_Lw_law_255 : decode code 255 = .ok (.iload_n 3, 1) := by decide +kernel
theorem d_Lw_law_256 : decode code 256 = .ok (.iconst 1, 1) := by decide +kernel
theorem d_Lw_law_257 : decode code 257 = .ok (.iadd, 1) := by decide +kernel
theorem d_Lw_law_258 : decode code 258 = .ok (.iaload, 1) := by decide +kernel
theorem d_Lw_law_259 : decode code 259 = .ok (.aload_n 0, 1) := by decide +kernel
theorem d_Lw_law_260 : decode code 260 = .ok (.iload_n 3, 1) := by decide +kernel
theorem d_Lw_law_261 : decode code 261 = .ok (.iconst 2, 1) := by decide +kernel
theorem d_Lw_law_262 : decode code 262 = .ok (.iadd, 1) := by decide +kernel
theorem d_Lw_law_263 : decode code 263 = .ok (.iaload, 1) := by decide +kernel
theorem d_Lw_law_264 : decode code 264 = .ok (.invokevirtual 36, 3) := by decide +kernel
theorem d_Lw_law_267 : decode code 267 = .ok (.aload_n 2, 1) := by decide +kernel
theorem d_Lw_law_268 : decode code 268 = .ok (.aload_n 0, 1) := by decide +kernel
theorem d_Lw_law_269 : decode code 269 = .ok (.iload_n 3, 1) := by decide +kernel
theorem d_Lw_law_270 : decode code 270 = .ok (.iconst 1, 1) := by decide +kernel
theorem d_Lw_law_271 : decode code 271 = .ok (.iadd, 1) := by decide +kernel
theorem d_Lw_law_272 : decode code 272 = .ok (.iaload, 1) := by decide +kernel
theorem d_Lw_law_273 : decode code 273 = .ok (.aload_n 0, 1) := by decide +kernel
theorem d_Lw_law_274 : decode code 274 = .ok (.iload_n 3, 1) := by decide +kernel
theorem d_Lw_law_275 : decode code 275 = .ok (.iconst 2, 1) := by decide +kernel
theorem d_Lw_law_276 : decode code 276 = .ok (.iadd, 1) := by decide +kernel
theorem d_Lw_law_277 : decode code 277 = .ok (.iaload, 1) := by decide +kernel
theorem d_Lw_law_278 : decode code 278 = .ok (.invokevirtual 40, 3) := by decide +kernel
theorem d_Lw_law_281 : decode code 281 = .ok (.if_icmp .eq (280), 3) := by decide +kernel
theorem d_Lw_law_284 : decode code 284 = .ok (.iconst 0, 1) := by decide +kernel
theorem d_Lw_law_285 : decode code 285 = .ok (.ireturn, 1) := by decide +kernel
theorem d_Lw_law_286 : decode code 286 = .ok (.aload_n 1, 1) := by decide +kernel
theorem d_Lw_law_287 : decode code 287 = .ok (.aload_n 0, 1) := by decide +kernel
theorem d_Lw_law_288 : decode code 288 = .ok (.iload_n 3, 1) := by decide +kernel
theorem d_Lw_law_289 : decode code 289 = .ok (.iconst 1, 1) := by decide +kernel
theorem d_Lw_law_290 : decode code 290 = .ok (.iadd, 1) := by decide +kernel
theorem d_Lw_law_291 : decode code 291 = .ok (.iaload, 1) := by decide +kernel
theorem d_Lw_law_292 : decode code 292 = .ok (.invokevirtual 41, 3) := by decide +kernel
theorem d_Lw_law_295 : decode code 295 = .ok (.aload_n 2, 1) := by decide +kernel
theorem d_Lw_law_296 : decode code 296 = .ok (.aload_n 0, 1) := by decide +kernel
theorem d_Lw_law_297 : decode code 297 = .ok (.iload_n 3, 1) := by decide +kernel
theorem d_Lw_law_298 : decode code 298 = .ok (.iconst 1, 1) := by decide +kernel
theorem d_Lw_law_299 : decode code 299 = .ok (.iadd, 1) := by decide +kernel
theorem d_Lw_law_300 : decode code 300 = .ok (.iaload, 1) := by decide +kernel
theorem d_Lw_law_301 : decode code 301 = .ok (.invokevirtual 45, 3) := by decide +kernel
theorem d_Lw_law_304 : decode code 304 = .ok (.if_icmp .eq (257), 3) := by decide +kernel
theorem d_Lw_law_307 : decode code 307 = .ok (.iconst 0, 1) := by decide +kernel
theorem d_Lw_law_308 : decode code 308 = .ok (.ireturn, 1) := by decide +kernel
theorem d_Lw_law_309 : decode code 309 = .ok (.aload_n 1, 1) := by decide +kernel
theorem d_Lw_law_310 : decode code 310 = .ok (.aload_n 0, 1) := by decide +kernel
theorem d_Lw_law_311 : decode code 311 = .ok (.iload_n 3, 1) := by decide +kernel
theorem d_Lw_law_312 : decode code 312 = .ok (.iconst 1, 1) := by decide +kernel
theorem d_Lw_law_313 : decode code 313 = .ok (.iadd, 1) := by decide +kernel
theorem d_Lw_law_314 : decode code 314 = .ok (.iaload, 1) := by decide +kernel
theorem d_Lw_law_315 : decode code 315 = .ok (.invokevirtual 46, 3) := by decide +kernel
theorem d_Lw_law_318 : decode code 318 = .ok (.aload_n 2, 1) := by decide +kernel
theorem d_Lw_law_319 : decode code 319 = .ok (.aload_n 0, 1) := by decide +kernel
theorem d_Lw_law_320 : decode code 320 = .ok (.iload_n 3, 1) := by decide +kernel
theorem d_Lw_law_321 : decode code 321 = .ok (.iconst 1, 1) := by decide +kernel
