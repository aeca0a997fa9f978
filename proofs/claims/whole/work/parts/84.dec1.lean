/-! the law, decoded -/
theorem dL_203 : decode code 203 = .ok (.invokevirtual 17, 3) := by decide +kernel
theorem dL_206 : decode code 206 = .ok (.if_icmp .eq 549, 3) := by decide +kernel
theorem dL_209 : decode code 209 = .ok (.iconst 0, 1) := by decide +kernel
theorem dL_210 : decode code 210 = .ok (.ireturn, 1) := by decide +kernel
theorem dL_211 : decode code 211 = .ok (.aload_n 1, 1) := by decide +kernel
theorem dL_212 : decode code 212 = .ok (.aload_n 0, 1) := by decide +kernel
theorem dL_213 : decode code 213 = .ok (.iload_n 3, 1) := by decide +kernel
theorem dL_214 : decode code 214 = .ok (.iconst 1, 1) := by decide +kernel
theorem dL_215 : decode code 215 = .ok (.iadd, 1) := by decide +kernel
theorem dL_216 : decode code 216 = .ok (.iaload, 1) := by decide +kernel
theorem dL_217 : decode code 217 = .ok (.invokevirtual 18, 3) := by decide +kernel
theorem dL_220 : decode code 220 = .ok (.aload_n 2, 1) := by decide +kernel
theorem dL_221 : decode code 221 = .ok (.aload_n 0, 1) := by decide +kernel
theorem dL_222 : decode code 222 = .ok (.iload_n 3, 1) := by decide +kernel
theorem dL_223 : decode code 223 = .ok (.iconst 1, 1) := by decide +kernel
theorem dL_224 : decode code 224 = .ok (.iadd, 1) := by decide +kernel
theorem dL_225 : decode code 225 = .ok (.iaload, 1) := by decide +kernel
theorem dL_226 : decode code 226 = .ok (.invokevirtual 22, 3) := by decide +kernel
theorem dL_229 : decode code 229 = .ok (.if_icmp .eq 526, 3) := by decide +kernel
theorem dL_232 : decode code 232 = .ok (.iconst 0, 1) := by decide +kernel
theorem dL_233 : decode code 233 = .ok (.ireturn, 1) := by decide +kernel
theorem dL_234 : decode code 234 = .ok (.aload_n 1, 1) := by decide +kernel
theorem dL_235 : decode code 235 = .ok (.aload_n 0, 1) := by decide +kernel
theorem dL_236 : decode code 236 = .ok (.iload_n 3, 1) := by decide +kernel
theorem dL_237 : decode code 237 = .ok (.iconst 1, 1) := by decide +kernel
theorem dL_238 : decode code 238 = .ok (.iadd, 1) := by decide +kernel
theorem dL_239 : decode code 239 = .ok (.iaload, 1) := by decide +kernel
theorem dL_240 : decode code 240 = .ok (.aload_n 0, 1) := by decide +kernel
theorem dL_241 : decode code 241 = .ok (.iload_n 3, 1) := by decide +kernel
theorem dL_242 : decode code 242 = .ok (.iconst 2, 1) := by decide +kernel
theorem dL_243 : decode code 243 = .ok (.iadd, 1) := by decide +kernel
theorem dL_244 : decode code 244 = .ok (.iaload, 1) := by decide +kernel
theorem dL_245 : decode code 245 = .ok (.aload_n 0, 1) := by decide +kernel
theorem dL_246 : decode code 246 = .ok (.iload_n 3, 1) := by decide +kernel
theorem dL_247 : decode code 247 = .ok (.iconst 3, 1) := by decide +kernel
theorem dL_248 : decode code 248 = .ok (.iadd, 1) := by decide +kernel
theorem dL_249 : decode code 249 = .ok (.iaload, 1) := by decide +kernel
theorem dL_250 : decode code 250 = .ok (.invokevirtual 23, 3) := by decide +kernel
theorem dL_253 : decode code 253 = .ok (.aload_n 2, 1) := by decide +kernel
theorem dL_254 : decode code 254 = .ok (.aload_n 0, 1) := by decide +kernel
theorem dL_255 : decode code 255 = .ok (.iload_n 3, 1) := by decide +kernel
theorem dL_256 : decode code 256 = .ok (.iconst 1, 1) := by decide +kernel
theorem dL_257 : decode code 257 = .ok (.iadd, 1) := by decide +kernel
theorem dL_258 : decode code 258 = .ok (.iaload, 1) := by decide +kernel
theorem dL_259 : decode code 259 = .ok (.aload_n 0, 1) := by decide +kernel
theorem dL_260 : decode code 260 = .ok (.iload_n 3, 1) := by decide +kernel
theorem dL_261 : decode code 261 = .ok (.iconst 2, 1) := by decide +kernel
theorem dL_262 : decode code 262 = .ok (.iadd, 1) := by decide +kernel
theorem dL_263 : decode code 263 = .ok (.iaload, 1) := by decide +kernel
theorem dL_264 : decode code 264 = .ok (.aload_n 0, 1) := by decide +kernel
theorem dL_265 : decode code 265 = .ok (.iload_n 3, 1) := by decide +kernel
theorem dL_266 : decode code 266 = .ok (.iconst 3, 1) := by decide +kernel
theorem dL_267 : decode code 267 = .ok (.iadd, 1) := by decide +kernel
theorem dL_268 : decode code 268 = .ok (.iaload, 1) := by decide +kernel
theorem dL_269 : decode code 269 = .ok (.invokevirtual 27, 3) := by decide +kernel
theorem dL_272 : decode code 272 = .ok (.if_icmp .eq 483, 3) := by decide +kernel
theorem dL_275 : decode code 275 = .ok (.iconst 0, 1) := by decide +kernel
theorem dL_276 : decode code 276 = .ok (.ireturn, 1) := by decide +kernel
theorem dL_277 : decode code 277 = .ok (.aload_n 1, 1) := by decide +kernel
theorem dL_278 : decode code 278 = .ok (.aload_n 0, 1) := by decide +kernel
theorem dL_279 : decode code 279 = .ok (.iload_n 3, 1) := by decide +kernel
theorem dL_280 : decode code 280 = .ok (.iconst 1, 1) := by decide +kernel
theorem dL_281 : decode code 281 = .ok (.iadd, 1) := by decide +kernel
theorem dL_282 : decode code 282 = .ok (.iaload, 1) := by decide +kernel
theorem dL_283 : decode code 283 = .ok (.aload_n 0, 1) := by decide +kernel
theorem dL_284 : decode code 284 = .ok (.iload_n 3, 1) := by decide +kernel
theorem dL_285 : decode code 285 = .ok (.iconst 2, 1) := by decide +kernel
theorem dL_286 : decode code 286 = .ok (.iadd, 1) := by decide +kernel
theorem dL_287 : decode code 287 = .ok (.iaload, 1) := by decide +kernel
theorem dL_288 : decode code 288 = .ok (.invokevirtual 28, 3) := by decide +kernel
theorem dL_291 : decode code 291 = .ok (.aload_n 2, 1) := by decide +kernel
theorem dL_292 : decode code 292 = .ok (.aload_n 0, 1) := by decide +kernel
theorem dL_293 : decode code 293 = .ok (.iload_n 3, 1) := by decide +kernel
theorem dL_294 : decode code 294 = .ok (.iconst 1, 1) := by decide +kernel
theorem dL_295 : decode code 295 = .ok (.iadd, 1) := by decide +kernel
theorem dL_296 : decode code 296 = .ok (.iaload, 1) := by decide +kernel
theorem dL_297 : decode code 297 = .ok (.aload_n 0, 1) := by decide +kernel
theorem dL_298 : decode code 298 = .ok (.iload_n 3, 1) := by decide +kernel
theorem dL_299 : decode code 299 = .ok (.iconst 2, 1) := by decide +kernel
theorem dL_300 : decode code 300 = .ok (.iadd, 1) := by decide +kernel
theorem dL_301 : decode code 301 = .ok (.iaload, 1) := by decide +kernel
theorem dL_302 : decode code 302 = .ok (.invokevirtual 32, 3) := by decide +kernel
theorem dL_305 : decode code 305 = .ok (.if_icmp .eq 450, 3) := by decide +kernel
theorem dL_308 : decode code 308 = .ok (.iconst 0, 1) := by decide +kernel
theorem dL_309 : decode code 309 = .ok (.ireturn, 1) := by decide +kernel
