theorem i_L_law_0 (X : Nat × (Nat → Int32)) : ins (ML_law X) 0 = some (.new 7) := by show ins (ML_law (0, fun _ => 0)) 0 = _; decide +kernel
theorem i_L_law_3 (X : Nat × (Nat → Int32)) : ins (ML_law X) 3 = some (.dup) := by show ins (ML_law (0, fun _ => 0)) 3 = _; decide +kernel
theorem i_L_law_4 (X : Nat × (Nat → Int32)) : ins (ML_law X) 4 = some (.invokespecial 9) := by show ins (ML_law (0, fun _ => 0)) 4 = _; decide +kernel
theorem i_L_law_7 (X : Nat × (Nat → Int32)) : ins (ML_law X) 7 = some (.astore_n 1) := by show ins (ML_law (0, fun _ => 0)) 7 = _; decide +kernel
theorem i_L_law_8 (X : Nat × (Nat → Int32)) : ins (ML_law X) 8 = some (.new 10) := by show ins (ML_law (0, fun _ => 0)) 8 = _; decide +kernel
theorem i_L_law_11 (X : Nat × (Nat → Int32)) : ins (ML_law X) 11 = some (.dup) := by show ins (ML_law (0, fun _ => 0)) 11 = _; decide +kernel
theorem i_L_law_12 (X : Nat × (Nat → Int32)) : ins (ML_law X) 12 = some (.invokespecial 12) := by show ins (ML_law (0, fun _ => 0)) 12 = _; decide +kernel
theorem i_L_law_15 (X : Nat × (Nat → Int32)) : ins (ML_law X) 15 = some (.astore_n 2) := by show ins (ML_law (0, fun _ => 0)) 15 = _; decide +kernel
theorem i_L_law_16 (X : Nat × (Nat → Int32)) : ins (ML_law X) 16 = some (.iconst 0) := by show ins (ML_law (0, fun _ => 0)) 16 = _; decide +kernel
theorem i_L_law_17 (X : Nat × (Nat → Int32)) : ins (ML_law X) 17 = some (.istore_n 3) := by show ins (ML_law (0, fun _ => 0)) 17 = _; decide +kernel
theorem i_L_law_18 (X : Nat × (Nat → Int32)) : ins (ML_law X) 18 = some (.iload_n 3) := by show ins (ML_law (0, fun _ => 0)) 18 = _; decide +kernel
theorem i_L_law_19 (X : Nat × (Nat → Int32)) : ins (ML_law X) 19 = some (.aload_n 0) := by show ins (ML_law (0, fun _ => 0)) 19 = _; decide +kernel
theorem i_L_law_20 (X : Nat × (Nat → Int32)) : ins (ML_law X) 20 = some (.arraylength) := by show ins (ML_law (0, fun _ => 0)) 20 = _; decide +kernel
theorem i_L_law_21 (X : Nat × (Nat → Int32)) : ins (ML_law X) 21 = some (.bipush 6) := by show ins (ML_law (0, fun _ => 0)) 21 = _; decide +kernel
theorem i_L_law_23 (X : Nat × (Nat → Int32)) : ins (ML_law X) 23 = some (.isub) := by show ins (ML_law (0, fun _ => 0)) 23 = _; decide +kernel
theorem i_L_law_24 (X : Nat × (Nat → Int32)) : ins (ML_law X) 24 = some (.if_icmp .gt 1304) := by show ins (ML_law (0, fun _ => 0)) 24 = _; decide +kernel
theorem i_L_law_27 (X : Nat × (Nat → Int32)) : ins (ML_law X) 27 = some (.aload_n 0) := by show ins (ML_law (0, fun _ => 0)) 27 = _; decide +kernel
theorem i_L_law_28 (X : Nat × (Nat → Int32)) : ins (ML_law X) 28 = some (.iload_n 3) := by show ins (ML_law (0, fun _ => 0)) 28 = _; decide +kernel
theorem i_L_law_29 (X : Nat × (Nat → Int32)) : ins (ML_law X) 29 = some (.iaload) := by show ins (ML_law (0, fun _ => 0)) 29 = _; decide +kernel
theorem i_L_law_30 (X : Nat × (Nat → Int32)) : ins (ML_law X) 30 = some (.bipush 63) := by show ins (ML_law (0, fun _ => 0)) 30 = _; decide +kernel
theorem i_L_law_32 (X : Nat × (Nat → Int32)) : ins (ML_law X) 32 = some (.iand) := by show ins (ML_law (0, fun _ => 0)) 32 = _; decide +kernel
theorem i_L_law_33 (X : Nat × (Nat → Int32)) : ins (ML_law X) 33 = some (.tableswitch 1289 0 32 #[147, 180, 233, 266, 309, 332, 365, 438, 471, 505, 549, 592, 655, 708, 721, 734, 747, 771, 804, 837, 880, 923, 956, 979, 1003, 1072, 1121, 1180, 1203, 1216, 1229, 1252, 1275]) := by show ins (ML_law (0, fun _ => 0)) 33 = _; decide +kernel
theorem i_L_law_180 (X : Nat × (Nat → Int32)) : ins (ML_law X) 180 = some (.aload_n 1) := by show ins (ML_law (0, fun _ => 0)) 180 = _; decide +kernel
theorem i_L_law_181 (X : Nat × (Nat → Int32)) : ins (ML_law X) 181 = some (.aload_n 0) := by show ins (ML_law (0, fun _ => 0)) 181 = _; decide +kernel
theorem i_L_law_182 (X : Nat × (Nat → Int32)) : ins (ML_law X) 182 = some (.iload_n 3) := by show ins (ML_law (0, fun _ => 0)) 182 = _; decide +kernel
theorem i_L_law_183 (X : Nat × (Nat → Int32)) : ins (ML_law X) 183 = some (.iconst 1) := by show ins (ML_law (0, fun _ => 0)) 183 = _; decide +kernel
theorem i_L_law_184 (X : Nat × (Nat → Int32)) : ins (ML_law X) 184 = some (.iadd) := by show ins (ML_law (0, fun _ => 0)) 184 = _; decide +kernel
theorem i_L_law_185 (X : Nat × (Nat → Int32)) : ins (ML_law X) 185 = some (.iaload) := by show ins (ML_law (0, fun _ => 0)) 185 = _; decide +kernel
theorem i_L_law_186 (X : Nat × (Nat → Int32)) : ins (ML_law X) 186 = some (.aload_n 0) := by show ins (ML_law (0, fun _ => 0)) 186 = _; decide +kernel
theorem i_L_law_187 (X : Nat × (Nat → Int32)) : ins (ML_law X) 187 = some (.iload_n 3) := by show ins (ML_law (0, fun _ => 0)) 187 = _; decide +kernel
theorem i_L_law_188 (X : Nat × (Nat → Int32)) : ins (ML_law X) 188 = some (.iconst 2) := by show ins (ML_law (0, fun _ => 0)) 188 = _; decide +kernel
theorem i_L_law_189 (X : Nat × (Nat → Int32)) : ins (ML_law X) 189 = some (.iadd) := by show ins (ML_law (0, fun _ => 0)) 189 = _; decide +kernel
theorem i_L_law_190 (X : Nat × (Nat → Int32)) : ins (ML_law X) 190 = some (.iaload) := by show ins (ML_law (0, fun _ => 0)) 190 = _; decide +kernel
theorem i_L_law_191 (X : Nat × (Nat → Int32)) : ins (ML_law X) 191 = some (.invokevirtual 13) := by show ins (ML_law (0, fun _ => 0)) 191 = _; decide +kernel
theorem i_L_law_194 (X : Nat × (Nat → Int32)) : ins (ML_law X) 194 = some (.aload_n 2) := by show ins (ML_law (0, fun _ => 0)) 194 = _; decide +kernel
theorem i_L_law_195 (X : Nat × (Nat → Int32)) : ins (ML_law X) 195 = some (.aload_n 0) := by show ins (ML_law (0, fun _ => 0)) 195 = _; decide +kernel
theorem i_L_law_196 (X : Nat × (Nat → Int32)) : ins (ML_law X) 196 = some (.iload_n 3) := by show ins (ML_law (0, fun _ => 0)) 196 = _; decide +kernel
theorem i_L_law_197 (X : Nat × (Nat → Int32)) : ins (ML_law X) 197 = some (.iconst 1) := by show ins (ML_law (0, fun _ => 0)) 197 = _; decide +kernel
theorem i_L_law_198 (X : Nat × (Nat → Int32)) : ins (ML_law X) 198 = some (.iadd) := by show ins (ML_law (0, fun _ => 0)) 198 = _; decide +kernel
theorem i_L_law_199 (X : Nat × (Nat → Int32)) : ins (ML_law X) 199 = some (.iaload) := by show ins (ML_law (0, fun _ => 0)) 199 = _; decide +kernel
theorem i_L_law_200 (X : Nat × (Nat → Int32)) : ins (ML_law X) 200 = some (.aload_n 0) := by show ins (ML_law (0, fun _ => 0)) 200 = _; decide +kernel
theorem i_L_law_201 (X : Nat × (Nat → Int32)) : ins (ML_law X) 201 = some (.iload_n 3) := by show ins (ML_law (0, fun _ => 0)) 201 = _; decide +kernel
theorem i_L_law_202 (X : Nat × (Nat → Int32)) : ins (ML_law X) 202 = some (.iconst 2) := by show ins (ML_law (0, fun _ => 0)) 202 = _; decide +kernel
theorem i_L_law_203 (X : Nat × (Nat → Int32)) : ins (ML_law X) 203 = some (.iadd) := by show ins (ML_law (0, fun _ => 0)) 203 = _; decide +kernel
theorem i_L_law_204 (X : Nat × (Nat → Int32)) : ins (ML_law X) 204 = some (.iaload) := by show ins (ML_law (0, fun _ => 0)) 204 = _; decide +kernel
theorem i_L_law_205 (X : Nat × (Nat → Int32)) : ins (ML_law X) 205 = some (.invokevirtual 17) := by show ins (ML_law (0, fun _ => 0)) 205 = _; decide +kernel
theorem i_L_law_208 (X : Nat × (Nat → Int32)) : ins (ML_law X) 208 = some (.if_icmp .eq 1114) := by show ins (ML_law (0, fun _ => 0)) 208 = _; decide +kernel
theorem i_L_law_211 (X : Nat × (Nat → Int32)) : ins (ML_law X) 211 = some (.iconst 0) := by show ins (ML_law (0, fun _ => 0)) 211 = _; decide +kernel
theorem i_L_law_212 (X : Nat × (Nat → Int32)) : ins (ML_law X) 212 = some (.ireturn) := by show ins (ML_law (0, fun _ => 0)) 212 = _; decide +kernel
theorem i_L_law_213 (X : Nat × (Nat → Int32)) : ins (ML_law X) 213 = some (.aload_n 1) := by show ins (ML_law (0, fun _ => 0)) 213 = _; decide +kernel
theorem i_L_law_214 (X : Nat × (Nat → Int32)) : ins (ML_law X) 214 = some (.aload_n 0) := by show ins (ML_law (0, fun _ => 0)) 214 = _; decide +kernel
theorem i_L_law_215 (X : Nat × (Nat → Int32)) : ins (ML_law X) 215 = some (.iload_n 3) := by show ins (ML_law (0, fun _ => 0)) 215 = _; decide +kernel
theorem i_L_law_216 (X : Nat × (Nat → Int32)) : ins (ML_law X) 216 = some (.iconst 1) := by show ins (ML_law (0, fun _ => 0)) 216 = _; decide +kernel
theorem i_L_law_217 (X : Nat × (Nat → Int32)) : ins (ML_law X) 217 = some (.iadd) := by show ins (ML_law (0, fun _ => 0)) 217 = _; decide +kernel
theorem i_L_law_218 (X : Nat × (Nat → Int32)) : ins (ML_law X) 218 = some (.iaload) := by show ins (ML_law (0, fun _ => 0)) 218 = _; decide +kernel
theorem i_L_law_219 (X : Nat × (Nat → Int32)) : ins (ML_law X) 219 = some (.aload_n 0) := by show ins (ML_law (0, fun _ => 0)) 219 = _; decide +kernel
theorem i_L_law_220 (X : Nat × (Nat → Int32)) : ins (ML_law X) 220 = some (.iload_n 3) := by show ins (ML_law (0, fun _ => 0)) 220 = _; decide +kernel
theorem i_L_law_221 (X : Nat × (Nat → Int32)) : ins (ML_law X) 221 = some (.iconst 2) := by show ins (ML_law (0, fun _ => 0)) 221 = _; decide +kernel
theorem i_L_law_222 (X : Nat × (Nat → Int32)) : ins (ML_law X) 222 = some (.iadd) := by show ins (ML_law (0, fun _ => 0)) 222 = _; decide +kernel
theorem i_L_law_223 (X : Nat × (Nat → Int32)) : ins (ML_law X) 223 = some (.iaload) := by show ins (ML_law (0, fun _ => 0)) 223 = _; decide +kernel
theorem i_L_law_224 (X : Nat × (Nat → Int32)) : ins (ML_law X) 224 = some (.aload_n 0) := by show ins (ML_law (0, fun _ => 0)) 224 = _; decide +kernel
theorem i_L_law_225 (X : Nat × (Nat → Int32)) : ins (ML_law X) 225 = some (.iload_n 3) := by show ins (ML_law (0, fun _ => 0)) 225 = _; decide +kernel
theorem i_L_law_226 (X : Nat × (Nat → Int32)) : ins (ML_law X) 226 = some (.iconst 3) := by show ins (ML_law (0, fun _ => 0)) 226 = _; decide +kernel
theorem i_L_law_227 (X : Nat × (Nat → Int32)) : ins (ML_law X) 227 = some (.iadd) := by show ins (ML_law (0, fun _ => 0)) 227 = _; decide +kernel
theorem i_L_law_228 (X : Nat × (Nat → Int32)) : ins (ML_law X) 228 = some (.iaload) := by show ins (ML_law (0, fun _ => 0)) 228 = _; decide +kernel
theorem i_L_law_229 (X : Nat × (Nat → Int32)) : ins (ML_law X) 229 = some (.aload_n 0) := by show ins (ML_law (0, fun _ => 0)) 229 = _; decide +kernel
theorem i_L_law_230 (X : Nat × (Nat → Int32)) : ins (ML_law X) 230 = some (.iload_n 3) := by show ins (ML_law (0, fun _ => 0)) 230 = _; decide +kernel
theorem i_L_law_231 (X : Nat × (Nat → Int32)) : ins (ML_law X) 231 = some (.iconst 4) := by show ins (ML_law (0, fun _ => 0)) 231 = _; decide +kernel
theorem i_L_law_232 (X : Nat × (Nat → Int32)) : ins (ML_law X) 232 = some (.iadd) := by show ins (ML_law (0, fun _ => 0)) 232 = _; decide +kernel
theorem i_L_law_233 (X : Nat × (Nat → Int32)) : ins (ML_law X) 233 = some (.iaload) := by show ins (ML_law (0, fun _ => 0)) 233 = _; decide +kernel
theorem i_L_law_234 (X : Nat × (Nat → Int32)) : ins (ML_law X) 234 = some (.invokevirtual 18) := by show ins (ML_law (0, fun _ => 0)) 234 = _; decide +kernel
theorem i_L_law_237 (X : Nat × (Nat → Int32)) : ins (ML_law X) 237 = some (.aload_n 2) := by show ins (ML_law (0, fun _ => 0)) 237 = _; decide +kernel
theorem i_L_law_238 (X : Nat × (Nat → Int32)) : ins (ML_law X) 238 = some (.aload_n 0) := by show ins (ML_law (0, fun _ => 0)) 238 = _; decide +kernel
theorem i_L_law_239 (X : Nat × (Nat → Int32)) : ins (ML_law X) 239 = some (.iload_n 3) := by show ins (ML_law (0, fun _ => 0)) 239 = _; decide +kernel
theorem i_L_law_240 (X : Nat × (Nat → Int32)) : ins (ML_law X) 240 = some (.iconst 1) := by show ins (ML_law (0, fun _ => 0)) 240 = _; decide +kernel
theorem i_L_law_241 (X : Nat × (Nat → Int32)) : ins (ML_law X) 241 = some (.iadd) := by show ins (ML_law (0, fun _ => 0)) 241 = _; decide +kernel
theorem i_L_law_242 (X : Nat × (Nat → Int32)) : ins (ML_law X) 242 = some (.iaload) := by show ins (ML_law (0, fun _ => 0)) 242 = _; decide +kernel
theorem i_L_law_243 (X : Nat × (Nat → Int32)) : ins (ML_law X) 243 = some (.aload_n 0) := by show ins (ML_law (0, fun _ => 0)) 243 = _; decide +kernel
theorem i_L_law_244 (X : Nat × (Nat → Int32)) : ins (ML_law X) 244 = some (.iload_n 3) := by show ins (ML_law (0, fun _ => 0)) 244 = _; decide +kernel
theorem i_L_law_245 (X : Nat × (Nat → Int32)) : ins (ML_law X) 245 = some (.iconst 2) := by show ins (ML_law (0, fun _ => 0)) 245 = _; decide +kernel
theorem i_L_law_246 (X : Nat × (Nat → Int32)) : ins (ML_law X) 246 = some (.iadd) := by show ins (ML_law (0, fun _ => 0)) 246 = _; decide +kernel
theorem i_L_law_247 (X : Nat × (Nat → Int32)) : ins (ML_law X) 247 = some (.iaload) := by show ins (ML_law (0, fun _ => 0)) 247 = _; decide +kernel
theorem i_L_law_248 (X : Nat × (Nat → Int32)) : ins (ML_law X) 248 = some (.aload_n 0) := by show ins (ML_law (0, fun _ => 0)) 248 = _; decide +kernel
theorem i_L_law_249 (X : Nat × (Nat → Int32)) : ins (ML_law X) 249 = some (.iload_n 3) := by show ins (ML_law (0, fun _ => 0)) 249 = _; decide +kernel
theorem i_L_law_250 (X : Nat × (Nat → Int32)) : ins (ML_law X) 250 = some (.iconst 3) := by show ins (ML_law (0, fun _ => 0)) 250 = _; decide +kernel
theorem i_L_law_251 (X : Nat × (Nat → Int32)) : ins (ML_law X) 251 = some (.iadd) := by show ins (ML_law (0, fun _ => 0)) 251 = _; decide +kernel
theorem i_L_law_252 (X : Nat × (Nat → Int32)) : ins (ML_law X) 252 = some (.iaload) := by show ins (ML_law (0, fun _ => 0)) 252 = _; decide +kernel
theorem i_L_law_253 (X : Nat × (Nat → Int32)) : ins (ML_law X) 253 = some (.aload_n 0) := by show ins (ML_law (0, fun _ => 0)) 253 = _; decide +kernel
theorem i_L_law_254 (X : Nat × (Nat → Int32)) : ins (ML_law X) 254 = some (.iload_n 3) := by show ins (ML_law (0, fun _ => 0)) 254 = _; decide +kernel
theorem i_L_law_255 (X : Nat × (Nat → Int32)) : ins (ML_law X) 255 = some (.iconst 4) := by show ins (ML_law (0, fun _ => 0)) 255 = _; decide +kernel
theorem i_L_law_256 (X : Nat × (Nat → Int32)) : ins (ML_law X) 256 = some (.iadd) := by show ins (ML_law (0, fun _ => 0)) 256 = _; decide +kernel
theorem i_L_law_257 (X : Nat × (Nat → Int32)) : ins (ML_law X) 257 = some (.iaload) := by show ins (ML_law (0, fun _ => 0)) 257 = _; decide +kernel
theorem i_L_law_258 (X : Nat × (Nat → Int32)) : ins (ML_law X) 258 = some (.invokevirtual 22) := by show ins (ML_law (0, fun _ => 0)) 258 = _; decide +kernel
theorem i_L_law_261 (X : Nat × (Nat → Int32)) : ins (ML_law X) 261 = some (.if_icmp .eq 1061) := by show ins (ML_law (0, fun _ => 0)) 261 = _; decide +kernel
theorem i_L_law_264 (X : Nat × (Nat → Int32)) : ins (ML_law X) 264 = some (.iconst 0) := by show ins (ML_law (0, fun _ => 0)) 264 = _; decide +kernel
theorem i_L_law_265 (X : Nat × (Nat → Int32)) : ins (ML_law X) 265 = some (.ireturn) := by show ins (ML_law (0, fun _ => 0)) 265 = _; decide +kernel
theorem i_L_law_266 (X : Nat × (Nat → Int32)) : ins (ML_law X) 266 = some (.aload_n 1) := by show ins (ML_law (0, fun _ => 0)) 266 = _; decide +kernel
theorem i_L_law_267 (X : Nat × (Nat → Int32)) : ins (ML_law X) 267 = some (.aload_n 0) := by show ins (ML_law (0, fun _ => 0)) 267 = _; decide +kernel
theorem i_L_law_268 (X : Nat × (Nat → Int32)) : ins (ML_law X) 268 = some (.iload_n 3) := by show ins (ML_law (0, fun _ => 0)) 268 = _; decide +kernel
theorem i_L_law_269 (X : Nat × (Nat → Int32)) : ins (ML_law X) 269 = some (.iconst 1) := by show ins (ML_law (0, fun _ => 0)) 269 = _; decide +kernel
theorem i_L_law_270 (X : Nat × (Nat → Int32)) : ins (ML_law X) 270 = some (.iadd) := by show ins (ML_law (0, fun _ => 0)) 270 = _; decide +kernel
theorem i_L_law_271 (X : Nat × (Nat → Int32)) : ins (ML_law X) 271 = some (.iaload) := by show ins (ML_law (0, fun _ => 0)) 271 = _; decide +kernel
theorem i_L_law_272 (X : Nat × (Nat → Int32)) : ins (ML_law X) 272 = some (.aload_n 0) := by show ins (ML_law (0, fun _ => 0)) 272 = _; decide +kernel
theorem i_L_law_273 (X : Nat × (Nat → Int32)) : ins (ML_law X) 273 = some (.iload_n 3) := by show ins (ML_law (0, fun _ => 0)) 273 = _; decide +kernel
theorem i_L_law_274 (X : Nat × (Nat → Int32)) : ins (ML_law X) 274 = some (.iconst 2) := by show ins (ML_law (0, fun _ => 0)) 274 = _; decide +kernel
theorem i_L_law_275 (X : Nat × (Nat → Int32)) : ins (ML_law X) 275 = some (.iadd) := by show ins (ML_law (0, fun _ => 0)) 275 = _; decide +kernel
theorem i_L_law_276 (X : Nat × (Nat → Int32)) : ins (ML_law X) 276 = some (.iaload) := by show ins (ML_law (0, fun _ => 0)) 276 = _; decide +kernel
theorem i_L_law_277 (X : Nat × (Nat → Int32)) : ins (ML_law X) 277 = some (.invokevirtual 23) := by show ins (ML_law (0, fun _ => 0)) 277 = _; decide +kernel
theorem i_L_law_280 (X : Nat × (Nat → Int32)) : ins (ML_law X) 280 = some (.aload_n 2) := by show ins (ML_law (0, fun _ => 0)) 280 = _; decide +kernel
theorem i_L_law_281 (X : Nat × (Nat → Int32)) : ins (ML_law X) 281 = some (.aload_n 0) := by show ins (ML_law (0, fun _ => 0)) 281 = _; decide +kernel
theorem i_L_law_282 (X : Nat × (Nat → Int32)) : ins (ML_law X) 282 = some (.iload_n 3) := by show ins (ML_law (0, fun _ => 0)) 282 = _; decide +kernel
theorem i_L_law_283 (X : Nat × (Nat → Int32)) : ins (ML_law X) 283 = some (.iconst 1) := by show ins (ML_law (0, fun _ => 0)) 283 = _; decide +kernel
theorem i_L_law_284 (X : Nat × (Nat → Int32)) : ins (ML_law X) 284 = some (.iadd) := by show ins (ML_law (0, fun _ => 0)) 284 = _; decide +kernel
theorem i_L_law_285 (X : Nat × (Nat → Int32)) : ins (ML_law X) 285 = some (.iaload) := by show ins (ML_law (0, fun _ => 0)) 285 = _; decide +kernel
theorem i_L_law_286 (X : Nat × (Nat → Int32)) : ins (ML_law X) 286 = some (.aload_n 0) := by show ins (ML_law (0, fun _ => 0)) 286 = _; decide +kernel
theorem i_L_law_287 (X : Nat × (Nat → Int32)) : ins (ML_law X) 287 = some (.iload_n 3) := by show ins (ML_law (0, fun _ => 0)) 287 = _; decide +kernel
theorem i_L_law_288 (X : Nat × (Nat → Int32)) : ins (ML_law X) 288 = some (.iconst 2) := by show ins (ML_law (0, fun _ => 0)) 288 = _; decide +kernel
theorem i_L_law_289 (X : Nat × (Nat → Int32)) : ins (ML_law X) 289 = some (.iadd) := by show ins (ML_law (0, fun _ => 0)) 289 = _; decide +kernel
theorem i_L_law_290 (X : Nat × (Nat → Int32)) : ins (ML_law X) 290 = some (.iaload) := by show ins (ML_law (0, fun _ => 0)) 290 = _; decide +kernel
theorem i_L_law_291 (X : Nat × (Nat → Int32)) : ins (ML_law X) 291 = some (.invokevirtual 26) := by show ins (ML_law (0, fun _ => 0)) 291 = _; decide +kernel
theorem i_L_law_294 (X : Nat × (Nat → Int32)) : ins (ML_law X) 294 = some (.if_icmp .eq 1028) := by show ins (ML_law (0, fun _ => 0)) 294 = _; decide +kernel
theorem i_L_law_297 (X : Nat × (Nat → Int32)) : ins (ML_law X) 297 = some (.iconst 0) := by show ins (ML_law (0, fun _ => 0)) 297 = _; decide +kernel
theorem i_L_law_298 (X : Nat × (Nat → Int32)) : ins (ML_law X) 298 = some (.ireturn) := by show ins (ML_law (0, fun _ => 0)) 298 = _; decide +kernel
theorem i_L_law_299 (X : Nat × (Nat → Int32)) : ins (ML_law X) 299 = some (.aload_n 1) := by show ins (ML_law (0, fun _ => 0)) 299 = _; decide +kernel
theorem i_L_law_300 (X : Nat × (Nat → Int32)) : ins (ML_law X) 300 = some (.aload_n 0) := by show ins (ML_law (0, fun _ => 0)) 300 = _; decide +kernel
theorem i_L_law_301 (X : Nat × (Nat → Int32)) : ins (ML_law X) 301 = some (.iload_n 3) := by show ins (ML_law (0, fun _ => 0)) 301 = _; decide +kernel
theorem i_L_law_302 (X : Nat × (Nat → Int32)) : ins (ML_law X) 302 = some (.iconst 1) := by show ins (ML_law (0, fun _ => 0)) 302 = _; decide +kernel
theorem i_L_law_303 (X : Nat × (Nat → Int32)) : ins (ML_law X) 303 = some (.iadd) := by show ins (ML_law (0, fun _ => 0)) 303 = _; decide +kernel
theorem i_L_law_304 (X : Nat × (Nat → Int32)) : ins (ML_law X) 304 = some (.iaload) := by show ins (ML_law (0, fun _ => 0)) 304 = _; decide +kernel
theorem i_L_law_305 (X : Nat × (Nat → Int32)) : ins (ML_law X) 305 = some (.aload_n 0) := by show ins (ML_law (0, fun _ => 0)) 305 = _; decide +kernel
theorem i_L_law_306 (X : Nat × (Nat → Int32)) : ins (ML_law X) 306 = some (.iload_n 3) := by show ins (ML_law (0, fun _ => 0)) 306 = _; decide +kernel
theorem i_L_law_307 (X : Nat × (Nat → Int32)) : ins (ML_law X) 307 = some (.iconst 2) := by show ins (ML_law (0, fun _ => 0)) 307 = _; decide +kernel
theorem i_L_law_308 (X : Nat × (Nat → Int32)) : ins (ML_law X) 308 = some (.iadd) := by show ins (ML_law (0, fun _ => 0)) 308 = _; decide +kernel
theorem i_L_law_309 (X : Nat × (Nat → Int32)) : ins (ML_law X) 309 = some (.iaload) := by show ins (ML_law (0, fun _ => 0)) 309 = _; decide +kernel
theorem i_L_law_310 (X : Nat × (Nat → Int32)) : ins (ML_law X) 310 = some (.aload_n 0) := by show ins (ML_law (0, fun _ => 0)) 310 = _; decide +kernel
theorem i_L_law_311 (X : Nat × (Nat → Int32)) : ins (ML_law X) 311 = some (.iload_n 3) := by show ins (ML_law (0, fun _ => 0)) 311 = _; decide +kernel
theorem i_L_law_312 (X : Nat × (Nat → Int32)) : ins (ML_law X) 312 = some (.iconst 3) := by show ins (ML_law (0, fun _ => 0)) 312 = _; decide +kernel
theorem i_L_law_313 (X : Nat × (Nat → Int32)) : ins (ML_law X) 313 = some (.iadd) := by show ins (ML_law (0, fun _ => 0)) 313 = _; decide +kernel
theorem i_L_law_314 (X : Nat × (Nat → Int32)) : ins (ML_law X) 314 = some (.iaload) := by show ins (ML_law (0, fun _ => 0)) 314 = _; decide +kernel
theorem i_L_law_315 (X : Nat × (Nat → Int32)) : ins (ML_law X) 315 = some (.invokevirtual 27) := by show ins (ML_law (0, fun _ => 0)) 315 = _; decide +kernel
theorem i_L_law_318 (X : Nat × (Nat → Int32)) : ins (ML_law X) 318 = some (.aload_n 2) := by show ins (ML_law (0, fun _ => 0)) 318 = _; decide +kernel
theorem i_L_law_319 (X : Nat × (Nat → Int32)) : ins (ML_law X) 319 = some (.aload_n 0) := by show ins (ML_law (0, fun _ => 0)) 319 = _; decide +kernel
theorem i_L_law_320 (X : Nat × (Nat → Int32)) : ins (ML_law X) 320 = some (.iload_n 3) := by show ins (ML_law (0, fun _ => 0)) 320 = _; decide +kernel
theorem i_L_law_321 (X : Nat × (Nat → Int32)) : ins (ML_law X) 321 = some (.iconst 1) := by show ins (ML_law (0, fun _ => 0)) 321 = _; decide +kernel
theorem i_L_law_322 (X : Nat × (Nat → Int32)) : ins (ML_law X) 322 = some (.iadd) := by show ins (ML_law (0, fun _ => 0)) 322 = _; decide +kernel
theorem i_L_law_323 (X : Nat × (Nat → Int32)) : ins (ML_law X) 323 = some (.iaload) := by show ins (ML_law (0, fun _ => 0)) 323 = _; decide +kernel
theorem i_L_law_324 (X : Nat × (Nat → Int32)) : ins (ML_law X) 324 = some (.aload_n 0) := by show ins (ML_law (0, fun _ => 0)) 324 = _; decide +kernel
theorem i_L_law_325 (X : Nat × (Nat → Int32)) : ins (ML_law X) 325 = some (.iload_n 3) := by show ins (ML_law (0, fun _ => 0)) 325 = _; decide +kernel
theorem i_L_law_326 (X : Nat × (Nat → Int32)) : ins (ML_law X) 326 = some (.iconst 2) := by show ins (ML_law (0, fun _ => 0)) 326 = _; decide +kernel
theorem i_L_law_327 (X : Nat × (Nat → Int32)) : ins (ML_law X) 327 = some (.iadd) := by show ins (ML_law (0, fun _ => 0)) 327 = _; decide +kernel
theorem i_L_law_328 (X : Nat × (Nat → Int32)) : ins (ML_law X) 328 = some (.iaload) := by show ins (ML_law (0, fun _ => 0)) 328 = _; decide +kernel
theorem i_L_law_329 (X : Nat × (Nat → Int32)) : ins (ML_law X) 329 = some (.aload_n 0) := by show ins (ML_law (0, fun _ => 0)) 329 = _; decide +kernel
theorem i_L_law_330 (X : Nat × (Nat → Int32)) : ins (ML_law X) 330 = some (.iload_n 3) := by show ins (ML_law (0, fun _ => 0)) 330 = _; decide +kernel
theorem i_L_law_331 (X : Nat × (Nat → Int32)) : ins (ML_law X) 331 = some (.iconst 3) := by show ins (ML_law (0, fun _ => 0)) 331 = _; decide +kernel
theorem i_L_law_332 (X : Nat × (Nat → Int32)) : ins (ML_law X) 332 = some (.iadd) := by show ins (ML_law (0, fun _ => 0)) 332 = _; decide +kernel
theorem i_L_law_333 (X : Nat × (Nat → Int32)) : ins (ML_law X) 333 = some (.iaload) := by show ins (ML_law (0, fun _ => 0)) 333 = _; decide +kernel
theorem i_L_law_334 (X : Nat × (Nat → Int32)) : ins (ML_law X) 334 = some (.invokevirtual 31) := by show ins (ML_law (0, fun _ => 0)) 334 = _; decide +kernel
theorem i_L_law_337 (X : Nat × (Nat → Int32)) : ins (ML_law X) 337 = some (.if_icmp .eq 985) := by show ins (ML_law (0, fun _ => 0)) 337 = _; decide +kernel
theorem i_L_law_340 (X : Nat × (Nat → Int32)) : ins (ML_law X) 340 = some (.iconst 0) := by show ins (ML_law (0, fun _ => 0)) 340 = _; decide +kernel
theorem i_L_law_341 (X : Nat × (Nat → Int32)) : ins (ML_law X) 341 = some (.ireturn) := by show ins (ML_law (0, fun _ => 0)) 341 = _; decide +kernel
theorem i_L_law_342 (X : Nat × (Nat → Int32)) : ins (ML_law X) 342 = some (.aload_n 1) := by show ins (ML_law (0, fun _ => 0)) 342 = _; decide +kernel
theorem i_L_law_343 (X : Nat × (Nat → Int32)) : ins (ML_law X) 343 = some (.aload_n 0) := by show ins (ML_law (0, fun _ => 0)) 343 = _; decide +kernel
theorem i_L_law_344 (X : Nat × (Nat → Int32)) : ins (ML_law X) 344 = some (.iload_n 3) := by show ins (ML_law (0, fun _ => 0)) 344 = _; decide +kernel
theorem i_L_law_345 (X : Nat × (Nat → Int32)) : ins (ML_law X) 345 = some (.iconst 1) := by show ins (ML_law (0, fun _ => 0)) 345 = _; decide +kernel
theorem i_L_law_346 (X : Nat × (Nat → Int32)) : ins (ML_law X) 346 = some (.iadd) := by show ins (ML_law (0, fun _ => 0)) 346 = _; decide +kernel
theorem i_L_law_347 (X : Nat × (Nat → Int32)) : ins (ML_law X) 347 = some (.iaload) := by show ins (ML_law (0, fun _ => 0)) 347 = _; decide +kernel
theorem i_L_law_348 (X : Nat × (Nat → Int32)) : ins (ML_law X) 348 = some (.invokevirtual 32) := by show ins (ML_law (0, fun _ => 0)) 348 = _; decide +kernel
theorem i_L_law_351 (X : Nat × (Nat → Int32)) : ins (ML_law X) 351 = some (.aload_n 2) := by show ins (ML_law (0, fun _ => 0)) 351 = _; decide +kernel
theorem i_L_law_352 (X : Nat × (Nat → Int32)) : ins (ML_law X) 352 = some (.aload_n 0) := by show ins (ML_law (0, fun _ => 0)) 352 = _; decide +kernel
theorem i_L_law_353 (X : Nat × (Nat → Int32)) : ins (ML_law X) 353 = some (.iload_n 3) := by show ins (ML_law (0, fun _ => 0)) 353 = _; decide +kernel
theorem i_L_law_354 (X : Nat × (Nat → Int32)) : ins (ML_law X) 354 = some (.iconst 1) := by show ins (ML_law (0, fun _ => 0)) 354 = _; decide +kernel
theorem i_L_law_355 (X : Nat × (Nat → Int32)) : ins (ML_law X) 355 = some (.iadd) := by show ins (ML_law (0, fun _ => 0)) 355 = _; decide +kernel
theorem i_L_law_356 (X : Nat × (Nat → Int32)) : ins (ML_law X) 356 = some (.iaload) := by show ins (ML_law (0, fun _ => 0)) 356 = _; decide +kernel
theorem i_L_law_357 (X : Nat × (Nat → Int32)) : ins (ML_law X) 357 = some (.invokevirtual 36) := by show ins (ML_law (0, fun _ => 0)) 357 = _; decide +kernel
theorem i_L_law_360 (X : Nat × (Nat → Int32)) : ins (ML_law X) 360 = some (.if_icmp .eq 962) := by show ins (ML_law (0, fun _ => 0)) 360 = _; decide +kernel
theorem i_L_law_363 (X : Nat × (Nat → Int32)) : ins (ML_law X) 363 = some (.iconst 0) := by show ins (ML_law (0, fun _ => 0)) 363 = _; decide +kernel
theorem i_L_law_364 (X : Nat × (Nat → Int32)) : ins (ML_law X) 364 = some (.ireturn) := by show ins (ML_law (0, fun _ => 0)) 364 = _; decide +kernel
theorem i_L_law_365 (X : Nat × (Nat → Int32)) : ins (ML_law X) 365 = some (.aload_n 1) := by show ins (ML_law (0, fun _ => 0)) 365 = _; decide +kernel
theorem i_L_law_366 (X : Nat × (Nat → Int32)) : ins (ML_law X) 366 = some (.aload_n 0) := by show ins (ML_law (0, fun _ => 0)) 366 = _; decide +kernel
theorem i_L_law_367 (X : Nat × (Nat → Int32)) : ins (ML_law X) 367 = some (.iload_n 3) := by show ins (ML_law (0, fun _ => 0)) 367 = _; decide +kernel
theorem i_L_law_368 (X : Nat × (Nat → Int32)) : ins (ML_law X) 368 = some (.iconst 1) := by show ins (ML_law (0, fun _ => 0)) 368 = _; decide +kernel
theorem i_L_law_369 (X : Nat × (Nat → Int32)) : ins (ML_law X) 369 = some (.iadd) := by show ins (ML_law (0, fun _ => 0)) 369 = _; decide +kernel
theorem i_L_law_370 (X : Nat × (Nat → Int32)) : ins (ML_law X) 370 = some (.iaload) := by show ins (ML_law (0, fun _ => 0)) 370 = _; decide +kernel
theorem i_L_law_371 (X : Nat × (Nat → Int32)) : ins (ML_law X) 371 = some (.aload_n 0) := by show ins (ML_law (0, fun _ => 0)) 371 = _; decide +kernel
theorem i_L_law_372 (X : Nat × (Nat → Int32)) : ins (ML_law X) 372 = some (.iload_n 3) := by show ins (ML_law (0, fun _ => 0)) 372 = _; decide +kernel
theorem i_L_law_373 (X : Nat × (Nat → Int32)) : ins (ML_law X) 373 = some (.iconst 2) := by show ins (ML_law (0, fun _ => 0)) 373 = _; decide +kernel
theorem i_L_law_374 (X : Nat × (Nat → Int32)) : ins (ML_law X) 374 = some (.iadd) := by show ins (ML_law (0, fun _ => 0)) 374 = _; decide +kernel
theorem i_L_law_375 (X : Nat × (Nat → Int32)) : ins (ML_law X) 375 = some (.iaload) := by show ins (ML_law (0, fun _ => 0)) 375 = _; decide +kernel
theorem i_L_law_376 (X : Nat × (Nat → Int32)) : ins (ML_law X) 376 = some (.invokevirtual 37) := by show ins (ML_law (0, fun _ => 0)) 376 = _; decide +kernel
theorem i_L_law_379 (X : Nat × (Nat → Int32)) : ins (ML_law X) 379 = some (.aload_n 2) := by show ins (ML_law (0, fun _ => 0)) 379 = _; decide +kernel
theorem i_L_law_380 (X : Nat × (Nat → Int32)) : ins (ML_law X) 380 = some (.aload_n 0) := by show ins (ML_law (0, fun _ => 0)) 380 = _; decide +kernel
theorem i_L_law_381 (X : Nat × (Nat → Int32)) : ins (ML_law X) 381 = some (.iload_n 3) := by show ins (ML_law (0, fun _ => 0)) 381 = _; decide +kernel
theorem i_L_law_382 (X : Nat × (Nat → Int32)) : ins (ML_law X) 382 = some (.iconst 1) := by show ins (ML_law (0, fun _ => 0)) 382 = _; decide +kernel
theorem i_L_law_383 (X : Nat × (Nat → Int32)) : ins (ML_law X) 383 = some (.iadd) := by show ins (ML_law (0, fun _ => 0)) 383 = _; decide +kernel
theorem i_L_law_384 (X : Nat × (Nat → Int32)) : ins (ML_law X) 384 = some (.iaload) := by show ins (ML_law (0, fun _ => 0)) 384 = _; decide +kernel
theorem i_L_law_385 (X : Nat × (Nat → Int32)) : ins (ML_law X) 385 = some (.aload_n 0) := by show ins (ML_law (0, fun _ => 0)) 385 = _; decide +kernel
theorem i_L_law_386 (X : Nat × (Nat → Int32)) : ins (ML_law X) 386 = some (.iload_n 3) := by show ins (ML_law (0, fun _ => 0)) 386 = _; decide +kernel
theorem i_L_law_387 (X : Nat × (Nat → Int32)) : ins (ML_law X) 387 = some (.iconst 2) := by show ins (ML_law (0, fun _ => 0)) 387 = _; decide +kernel
theorem i_L_law_388 (X : Nat × (Nat → Int32)) : ins (ML_law X) 388 = some (.iadd) := by show ins (ML_law (0, fun _ => 0)) 388 = _; decide +kernel
theorem i_L_law_389 (X : Nat × (Nat → Int32)) : ins (ML_law X) 389 = some (.iaload) := by show ins (ML_law (0, fun _ => 0)) 389 = _; decide +kernel
theorem i_L_law_390 (X : Nat × (Nat → Int32)) : ins (ML_law X) 390 = some (.invokevirtual 40) := by show ins (ML_law (0, fun _ => 0)) 390 = _; decide +kernel
theorem i_L_law_393 (X : Nat × (Nat → Int32)) : ins (ML_law X) 393 = some (.if_icmp .eq 929) := by show ins (ML_law (0, fun _ => 0)) 393 = _; decide +kernel
theorem i_L_law_396 (X : Nat × (Nat → Int32)) : ins (ML_law X) 396 = some (.iconst 0) := by show ins (ML_law (0, fun _ => 0)) 396 = _; decide +kernel
theorem i_L_law_397 (X : Nat × (Nat → Int32)) : ins (ML_law X) 397 = some (.ireturn) := by show ins (ML_law (0, fun _ => 0)) 397 = _; decide +kernel
theorem i_L_law_398 (X : Nat × (Nat → Int32)) : ins (ML_law X) 398 = some (.aload_n 1) := by show ins (ML_law (0, fun _ => 0)) 398 = _; decide +kernel
theorem i_L_law_399 (X : Nat × (Nat → Int32)) : ins (ML_law X) 399 = some (.aload_n 0) := by show ins (ML_law (0, fun _ => 0)) 399 = _; decide +kernel
theorem i_L_law_400 (X : Nat × (Nat → Int32)) : ins (ML_law X) 400 = some (.iload_n 3) := by show ins (ML_law (0, fun _ => 0)) 400 = _; decide +kernel
theorem i_L_law_401 (X : Nat × (Nat → Int32)) : ins (ML_law X) 401 = some (.iconst 1) := by show ins (ML_law (0, fun _ => 0)) 401 = _; decide +kernel
theorem i_L_law_402 (X : Nat × (Nat → Int32)) : ins (ML_law X) 402 = some (.iadd) := by show ins (ML_law (0, fun _ => 0)) 402 = _; decide +kernel
theorem i_L_law_403 (X : Nat × (Nat → Int32)) : ins (ML_law X) 403 = some (.iaload) := by show ins (ML_law (0, fun _ => 0)) 403 = _; decide +kernel
theorem i_L_law_404 (X : Nat × (Nat → Int32)) : ins (ML_law X) 404 = some (.aload_n 0) := by show ins (ML_law (0, fun _ => 0)) 404 = _; decide +kernel
theorem i_L_law_405 (X : Nat × (Nat → Int32)) : ins (ML_law X) 405 = some (.iload_n 3) := by show ins (ML_law (0, fun _ => 0)) 405 = _; decide +kernel
theorem i_L_law_406 (X : Nat × (Nat → Int32)) : ins (ML_law X) 406 = some (.iconst 2) := by show ins (ML_law (0, fun _ => 0)) 406 = _; decide +kernel
theorem i_L_law_407 (X : Nat × (Nat → Int32)) : ins (ML_law X) 407 = some (.iadd) := by show ins (ML_law (0, fun _ => 0)) 407 = _; decide +kernel
theorem i_L_law_408 (X : Nat × (Nat → Int32)) : ins (ML_law X) 408 = some (.iaload) := by show ins (ML_law (0, fun _ => 0)) 408 = _; decide +kernel
theorem i_L_law_409 (X : Nat × (Nat → Int32)) : ins (ML_law X) 409 = some (.aload_n 0) := by show ins (ML_law (0, fun _ => 0)) 409 = _; decide +kernel
theorem i_L_law_410 (X : Nat × (Nat → Int32)) : ins (ML_law X) 410 = some (.iload_n 3) := by show ins (ML_law (0, fun _ => 0)) 410 = _; decide +kernel
theorem i_L_law_411 (X : Nat × (Nat → Int32)) : ins (ML_law X) 411 = some (.iconst 3) := by show ins (ML_law (0, fun _ => 0)) 411 = _; decide +kernel
theorem i_L_law_412 (X : Nat × (Nat → Int32)) : ins (ML_law X) 412 = some (.iadd) := by show ins (ML_law (0, fun _ => 0)) 412 = _; decide +kernel
theorem i_L_law_413 (X : Nat × (Nat → Int32)) : ins (ML_law X) 413 = some (.iaload) := by show ins (ML_law (0, fun _ => 0)) 413 = _; decide +kernel
theorem i_L_law_414 (X : Nat × (Nat → Int32)) : ins (ML_law X) 414 = some (.i2l) := by show ins (ML_law (0, fun _ => 0)) 414 = _; decide +kernel
theorem i_L_law_415 (X : Nat × (Nat → Int32)) : ins (ML_law X) 415 = some (.bipush 32) := by show ins (ML_law (0, fun _ => 0)) 415 = _; decide +kernel
theorem i_L_law_417 (X : Nat × (Nat → Int32)) : ins (ML_law X) 417 = some (.lshl) := by show ins (ML_law (0, fun _ => 0)) 417 = _; decide +kernel
theorem i_L_law_418 (X : Nat × (Nat → Int32)) : ins (ML_law X) 418 = some (.aload_n 0) := by show ins (ML_law (0, fun _ => 0)) 418 = _; decide +kernel
theorem i_L_law_419 (X : Nat × (Nat → Int32)) : ins (ML_law X) 419 = some (.iload_n 3) := by show ins (ML_law (0, fun _ => 0)) 419 = _; decide +kernel
theorem i_L_law_420 (X : Nat × (Nat → Int32)) : ins (ML_law X) 420 = some (.iconst 4) := by show ins (ML_law (0, fun _ => 0)) 420 = _; decide +kernel
theorem i_L_law_421 (X : Nat × (Nat → Int32)) : ins (ML_law X) 421 = some (.iadd) := by show ins (ML_law (0, fun _ => 0)) 421 = _; decide +kernel
theorem i_L_law_422 (X : Nat × (Nat → Int32)) : ins (ML_law X) 422 = some (.iaload) := by show ins (ML_law (0, fun _ => 0)) 422 = _; decide +kernel
theorem i_L_law_423 (X : Nat × (Nat → Int32)) : ins (ML_law X) 423 = some (.i2l) := by show ins (ML_law (0, fun _ => 0)) 423 = _; decide +kernel
theorem i_L_law_424 (X : Nat × (Nat → Int32)) : ins (ML_law X) 424 = some (.ldc2_w 41) := by show ins (ML_law (0, fun _ => 0)) 424 = _; decide +kernel
theorem i_L_law_427 (X : Nat × (Nat → Int32)) : ins (ML_law X) 427 = some (.land) := by show ins (ML_law (0, fun _ => 0)) 427 = _; decide +kernel
theorem i_L_law_428 (X : Nat × (Nat → Int32)) : ins (ML_law X) 428 = some (.lor) := by show ins (ML_law (0, fun _ => 0)) 428 = _; decide +kernel
theorem i_L_law_429 (X : Nat × (Nat → Int32)) : ins (ML_law X) 429 = some (.invokevirtual 43) := by show ins (ML_law (0, fun _ => 0)) 429 = _; decide +kernel
theorem i_L_law_432 (X : Nat × (Nat → Int32)) : ins (ML_law X) 432 = some (.aload_n 2) := by show ins (ML_law (0, fun _ => 0)) 432 = _; decide +kernel
theorem i_L_law_433 (X : Nat × (Nat → Int32)) : ins (ML_law X) 433 = some (.aload_n 0) := by show ins (ML_law (0, fun _ => 0)) 433 = _; decide +kernel
theorem i_L_law_434 (X : Nat × (Nat → Int32)) : ins (ML_law X) 434 = some (.iload_n 3) := by show ins (ML_law (0, fun _ => 0)) 434 = _; decide +kernel
theorem i_L_law_435 (X : Nat × (Nat → Int32)) : ins (ML_law X) 435 = some (.iconst 1) := by show ins (ML_law (0, fun _ => 0)) 435 = _; decide +kernel
theorem i_L_law_436 (X : Nat × (Nat → Int32)) : ins (ML_law X) 436 = some (.iadd) := by show ins (ML_law (0, fun _ => 0)) 436 = _; decide +kernel
theorem i_L_law_437 (X : Nat × (Nat → Int32)) : ins (ML_law X) 437 = some (.iaload) := by show ins (ML_law (0, fun _ => 0)) 437 = _; decide +kernel
theorem i_L_law_438 (X : Nat × (Nat → Int32)) : ins (ML_law X) 438 = some (.aload_n 0) := by show ins (ML_law (0, fun _ => 0)) 438 = _; decide +kernel
theorem i_L_law_439 (X : Nat × (Nat → Int32)) : ins (ML_law X) 439 = some (.iload_n 3) := by show ins (ML_law (0, fun _ => 0)) 439 = _; decide +kernel
theorem i_L_law_440 (X : Nat × (Nat → Int32)) : ins (ML_law X) 440 = some (.iconst 2) := by show ins (ML_law (0, fun _ => 0)) 440 = _; decide +kernel
theorem i_L_law_441 (X : Nat × (Nat → Int32)) : ins (ML_law X) 441 = some (.iadd) := by show ins (ML_law (0, fun _ => 0)) 441 = _; decide +kernel
theorem i_L_law_442 (X : Nat × (Nat → Int32)) : ins (ML_law X) 442 = some (.iaload) := by show ins (ML_law (0, fun _ => 0)) 442 = _; decide +kernel
theorem i_L_law_443 (X : Nat × (Nat → Int32)) : ins (ML_law X) 443 = some (.aload_n 0) := by show ins (ML_law (0, fun _ => 0)) 443 = _; decide +kernel
theorem i_L_law_444 (X : Nat × (Nat → Int32)) : ins (ML_law X) 444 = some (.iload_n 3) := by show ins (ML_law (0, fun _ => 0)) 444 = _; decide +kernel
theorem i_L_law_445 (X : Nat × (Nat → Int32)) : ins (ML_law X) 445 = some (.iconst 3) := by show ins (ML_law (0, fun _ => 0)) 445 = _; decide +kernel
theorem i_L_law_446 (X : Nat × (Nat → Int32)) : ins (ML_law X) 446 = some (.iadd) := by show ins (ML_law (0, fun _ => 0)) 446 = _; decide +kernel
theorem i_L_law_447 (X : Nat × (Nat → Int32)) : ins (ML_law X) 447 = some (.iaload) := by show ins (ML_law (0, fun _ => 0)) 447 = _; decide +kernel
theorem i_L_law_448 (X : Nat × (Nat → Int32)) : ins (ML_law X) 448 = some (.i2l) := by show ins (ML_law (0, fun _ => 0)) 448 = _; decide +kernel
theorem i_L_law_449 (X : Nat × (Nat → Int32)) : ins (ML_law X) 449 = some (.bipush 32) := by show ins (ML_law (0, fun _ => 0)) 449 = _; decide +kernel
theorem i_L_law_451 (X : Nat × (Nat → Int32)) : ins (ML_law X) 451 = some (.lshl) := by show ins (ML_law (0, fun _ => 0)) 451 = _; decide +kernel
theorem i_L_law_452 (X : Nat × (Nat → Int32)) : ins (ML_law X) 452 = some (.aload_n 0) := by show ins (ML_law (0, fun _ => 0)) 452 = _; decide +kernel
theorem i_L_law_453 (X : Nat × (Nat → Int32)) : ins (ML_law X) 453 = some (.iload_n 3) := by show ins (ML_law (0, fun _ => 0)) 453 = _; decide +kernel
theorem i_L_law_454 (X : Nat × (Nat → Int32)) : ins (ML_law X) 454 = some (.iconst 4) := by show ins (ML_law (0, fun _ => 0)) 454 = _; decide +kernel
theorem i_L_law_455 (X : Nat × (Nat → Int32)) : ins (ML_law X) 455 = some (.iadd) := by show ins (ML_law (0, fun _ => 0)) 455 = _; decide +kernel
theorem i_L_law_456 (X : Nat × (Nat → Int32)) : ins (ML_law X) 456 = some (.iaload) := by show ins (ML_law (0, fun _ => 0)) 456 = _; decide +kernel
theorem i_L_law_457 (X : Nat × (Nat → Int32)) : ins (ML_law X) 457 = some (.i2l) := by show ins (ML_law (0, fun _ => 0)) 457 = _; decide +kernel
theorem i_L_law_458 (X : Nat × (Nat → Int32)) : ins (ML_law X) 458 = some (.ldc2_w 41) := by show ins (ML_law (0, fun _ => 0)) 458 = _; decide +kernel
theorem i_L_law_461 (X : Nat × (Nat → Int32)) : ins (ML_law X) 461 = some (.land) := by show ins (ML_law (0, fun _ => 0)) 461 = _; decide +kernel
theorem i_L_law_462 (X : Nat × (Nat → Int32)) : ins (ML_law X) 462 = some (.lor) := by show ins (ML_law (0, fun _ => 0)) 462 = _; decide +kernel
theorem i_L_law_463 (X : Nat × (Nat → Int32)) : ins (ML_law X) 463 = some (.invokevirtual 47) := by show ins (ML_law (0, fun _ => 0)) 463 = _; decide +kernel
theorem i_L_law_466 (X : Nat × (Nat → Int32)) : ins (ML_law X) 466 = some (.if_icmp .eq 856) := by show ins (ML_law (0, fun _ => 0)) 466 = _; decide +kernel
theorem i_L_law_469 (X : Nat × (Nat → Int32)) : ins (ML_law X) 469 = some (.iconst 0) := by show ins (ML_law (0, fun _ => 0)) 469 = _; decide +kernel
theorem i_L_law_470 (X : Nat × (Nat → Int32)) : ins (ML_law X) 470 = some (.ireturn) := by show ins (ML_law (0, fun _ => 0)) 470 = _; decide +kernel
theorem i_L_law_471 (X : Nat × (Nat → Int32)) : ins (ML_law X) 471 = some (.aload_n 1) := by show ins (ML_law (0, fun _ => 0)) 471 = _; decide +kernel
theorem i_L_law_472 (X : Nat × (Nat → Int32)) : ins (ML_law X) 472 = some (.aload_n 0) := by show ins (ML_law (0, fun _ => 0)) 472 = _; decide +kernel
theorem i_L_law_473 (X : Nat × (Nat → Int32)) : ins (ML_law X) 473 = some (.iload_n 3) := by show ins (ML_law (0, fun _ => 0)) 473 = _; decide +kernel
theorem i_L_law_474 (X : Nat × (Nat → Int32)) : ins (ML_law X) 474 = some (.iconst 1) := by show ins (ML_law (0, fun _ => 0)) 474 = _; decide +kernel
theorem i_L_law_475 (X : Nat × (Nat → Int32)) : ins (ML_law X) 475 = some (.iadd) := by show ins (ML_law (0, fun _ => 0)) 475 = _; decide +kernel
theorem i_L_law_476 (X : Nat × (Nat → Int32)) : ins (ML_law X) 476 = some (.iaload) := by show ins (ML_law (0, fun _ => 0)) 476 = _; decide +kernel
theorem i_L_law_477 (X : Nat × (Nat → Int32)) : ins (ML_law X) 477 = some (.aload_n 0) := by show ins (ML_law (0, fun _ => 0)) 477 = _; decide +kernel
theorem i_L_law_478 (X : Nat × (Nat → Int32)) : ins (ML_law X) 478 = some (.iload_n 3) := by show ins (ML_law (0, fun _ => 0)) 478 = _; decide +kernel
theorem i_L_law_479 (X : Nat × (Nat → Int32)) : ins (ML_law X) 479 = some (.iconst 2) := by show ins (ML_law (0, fun _ => 0)) 479 = _; decide +kernel
theorem i_L_law_480 (X : Nat × (Nat → Int32)) : ins (ML_law X) 480 = some (.iadd) := by show ins (ML_law (0, fun _ => 0)) 480 = _; decide +kernel
theorem i_L_law_481 (X : Nat × (Nat → Int32)) : ins (ML_law X) 481 = some (.iaload) := by show ins (ML_law (0, fun _ => 0)) 481 = _; decide +kernel
theorem i_L_law_482 (X : Nat × (Nat → Int32)) : ins (ML_law X) 482 = some (.invokevirtual 48) := by show ins (ML_law (0, fun _ => 0)) 482 = _; decide +kernel
theorem i_L_law_485 (X : Nat × (Nat → Int32)) : ins (ML_law X) 485 = some (.aload_n 2) := by show ins (ML_law (0, fun _ => 0)) 485 = _; decide +kernel
theorem i_L_law_486 (X : Nat × (Nat → Int32)) : ins (ML_law X) 486 = some (.aload_n 0) := by show ins (ML_law (0, fun _ => 0)) 486 = _; decide +kernel
theorem i_L_law_487 (X : Nat × (Nat → Int32)) : ins (ML_law X) 487 = some (.iload_n 3) := by show ins (ML_law (0, fun _ => 0)) 487 = _; decide +kernel
theorem i_L_law_488 (X : Nat × (Nat → Int32)) : ins (ML_law X) 488 = some (.iconst 1) := by show ins (ML_law (0, fun _ => 0)) 488 = _; decide +kernel
theorem i_L_law_489 (X : Nat × (Nat → Int32)) : ins (ML_law X) 489 = some (.iadd) := by show ins (ML_law (0, fun _ => 0)) 489 = _; decide +kernel
theorem i_L_law_490 (X : Nat × (Nat → Int32)) : ins (ML_law X) 490 = some (.iaload) := by show ins (ML_law (0, fun _ => 0)) 490 = _; decide +kernel
theorem i_L_law_491 (X : Nat × (Nat → Int32)) : ins (ML_law X) 491 = some (.aload_n 0) := by show ins (ML_law (0, fun _ => 0)) 491 = _; decide +kernel
theorem i_L_law_492 (X : Nat × (Nat → Int32)) : ins (ML_law X) 492 = some (.iload_n 3) := by show ins (ML_law (0, fun _ => 0)) 492 = _; decide +kernel
theorem i_L_law_493 (X : Nat × (Nat → Int32)) : ins (ML_law X) 493 = some (.iconst 2) := by show ins (ML_law (0, fun _ => 0)) 493 = _; decide +kernel
theorem i_L_law_494 (X : Nat × (Nat → Int32)) : ins (ML_law X) 494 = some (.iadd) := by show ins (ML_law (0, fun _ => 0)) 494 = _; decide +kernel
theorem i_L_law_495 (X : Nat × (Nat → Int32)) : ins (ML_law X) 495 = some (.iaload) := by show ins (ML_law (0, fun _ => 0)) 495 = _; decide +kernel
theorem i_L_law_496 (X : Nat × (Nat → Int32)) : ins (ML_law X) 496 = some (.invokevirtual 51) := by show ins (ML_law (0, fun _ => 0)) 496 = _; decide +kernel
theorem i_L_law_499 (X : Nat × (Nat → Int32)) : ins (ML_law X) 499 = some (.if_icmp .eq 823) := by show ins (ML_law (0, fun _ => 0)) 499 = _; decide +kernel
theorem i_L_law_502 (X : Nat × (Nat → Int32)) : ins (ML_law X) 502 = some (.iconst 0) := by show ins (ML_law (0, fun _ => 0)) 502 = _; decide +kernel
theorem i_L_law_503 (X : Nat × (Nat → Int32)) : ins (ML_law X) 503 = some (.ireturn) := by show ins (ML_law (0, fun _ => 0)) 503 = _; decide +kernel
theorem i_L_law_504 (X : Nat × (Nat → Int32)) : ins (ML_law X) 504 = some (.aload_n 1) := by show ins (ML_law (0, fun _ => 0)) 504 = _; decide +kernel
theorem i_L_law_505 (X : Nat × (Nat → Int32)) : ins (ML_law X) 505 = some (.aload_n 0) := by show ins (ML_law (0, fun _ => 0)) 505 = _; decide +kernel
theorem i_L_law_506 (X : Nat × (Nat → Int32)) : ins (ML_law X) 506 = some (.iload_n 3) := by show ins (ML_law (0, fun _ => 0)) 506 = _; decide +kernel
theorem i_L_law_507 (X : Nat × (Nat → Int32)) : ins (ML_law X) 507 = some (.iconst 1) := by show ins (ML_law (0, fun _ => 0)) 507 = _; decide +kernel
theorem i_L_law_508 (X : Nat × (Nat → Int32)) : ins (ML_law X) 508 = some (.iadd) := by show ins (ML_law (0, fun _ => 0)) 508 = _; decide +kernel
theorem i_L_law_509 (X : Nat × (Nat → Int32)) : ins (ML_law X) 509 = some (.iaload) := by show ins (ML_law (0, fun _ => 0)) 509 = _; decide +kernel
theorem i_L_law_510 (X : Nat × (Nat → Int32)) : ins (ML_law X) 510 = some (.aload_n 0) := by show ins (ML_law (0, fun _ => 0)) 510 = _; decide +kernel
theorem i_L_law_511 (X : Nat × (Nat → Int32)) : ins (ML_law X) 511 = some (.iload_n 3) := by show ins (ML_law (0, fun _ => 0)) 511 = _; decide +kernel
theorem i_L_law_512 (X : Nat × (Nat → Int32)) : ins (ML_law X) 512 = some (.iconst 2) := by show ins (ML_law (0, fun _ => 0)) 512 = _; decide +kernel
theorem i_L_law_513 (X : Nat × (Nat → Int32)) : ins (ML_law X) 513 = some (.iadd) := by show ins (ML_law (0, fun _ => 0)) 513 = _; decide +kernel
theorem i_L_law_514 (X : Nat × (Nat → Int32)) : ins (ML_law X) 514 = some (.iaload) := by show ins (ML_law (0, fun _ => 0)) 514 = _; decide +kernel
theorem i_L_law_515 (X : Nat × (Nat → Int32)) : ins (ML_law X) 515 = some (.invokevirtual 52) := by show ins (ML_law (0, fun _ => 0)) 515 = _; decide +kernel
theorem i_L_law_518 (X : Nat × (Nat → Int32)) : ins (ML_law X) 518 = some (.aload_n 2) := by show ins (ML_law (0, fun _ => 0)) 518 = _; decide +kernel
theorem i_L_law_519 (X : Nat × (Nat → Int32)) : ins (ML_law X) 519 = some (.aload_n 0) := by show ins (ML_law (0, fun _ => 0)) 519 = _; decide +kernel
theorem i_L_law_520 (X : Nat × (Nat → Int32)) : ins (ML_law X) 520 = some (.iload_n 3) := by show ins (ML_law (0, fun _ => 0)) 520 = _; decide +kernel
theorem i_L_law_521 (X : Nat × (Nat → Int32)) : ins (ML_law X) 521 = some (.iconst 1) := by show ins (ML_law (0, fun _ => 0)) 521 = _; decide +kernel
theorem i_L_law_522 (X : Nat × (Nat → Int32)) : ins (ML_law X) 522 = some (.iadd) := by show ins (ML_law (0, fun _ => 0)) 522 = _; decide +kernel
theorem i_L_law_523 (X : Nat × (Nat → Int32)) : ins (ML_law X) 523 = some (.iaload) := by show ins (ML_law (0, fun _ => 0)) 523 = _; decide +kernel
theorem i_L_law_524 (X : Nat × (Nat → Int32)) : ins (ML_law X) 524 = some (.aload_n 0) := by show ins (ML_law (0, fun _ => 0)) 524 = _; decide +kernel
theorem i_L_law_525 (X : Nat × (Nat → Int32)) : ins (ML_law X) 525 = some (.iload_n 3) := by show ins (ML_law (0, fun _ => 0)) 525 = _; decide +kernel
theorem i_L_law_526 (X : Nat × (Nat → Int32)) : ins (ML_law X) 526 = some (.iconst 2) := by show ins (ML_law (0, fun _ => 0)) 526 = _; decide +kernel
theorem i_L_law_527 (X : Nat × (Nat → Int32)) : ins (ML_law X) 527 = some (.iadd) := by show ins (ML_law (0, fun _ => 0)) 527 = _; decide +kernel
theorem i_L_law_528 (X : Nat × (Nat → Int32)) : ins (ML_law X) 528 = some (.iaload) := by show ins (ML_law (0, fun _ => 0)) 528 = _; decide +kernel
theorem i_L_law_529 (X : Nat × (Nat → Int32)) : ins (ML_law X) 529 = some (.invokevirtual 56) := by show ins (ML_law (0, fun _ => 0)) 529 = _; decide +kernel
theorem i_L_law_532 (X : Nat × (Nat → Int32)) : ins (ML_law X) 532 = some (.lcmp) := by show ins (ML_law (0, fun _ => 0)) 532 = _; decide +kernel
theorem i_L_law_533 (X : Nat × (Nat → Int32)) : ins (ML_law X) 533 = some (.ifCond .eq 789) := by show ins (ML_law (0, fun _ => 0)) 533 = _; decide +kernel
theorem i_L_law_536 (X : Nat × (Nat → Int32)) : ins (ML_law X) 536 = some (.iconst 0) := by show ins (ML_law (0, fun _ => 0)) 536 = _; decide +kernel
theorem i_L_law_537 (X : Nat × (Nat → Int32)) : ins (ML_law X) 537 = some (.ireturn) := by show ins (ML_law (0, fun _ => 0)) 537 = _; decide +kernel
theorem i_L_law_538 (X : Nat × (Nat → Int32)) : ins (ML_law X) 538 = some (.aload_n 1) := by show ins (ML_law (0, fun _ => 0)) 538 = _; decide +kernel
theorem i_L_law_539 (X : Nat × (Nat → Int32)) : ins (ML_law X) 539 = some (.aload_n 0) := by show ins (ML_law (0, fun _ => 0)) 539 = _; decide +kernel
theorem i_L_law_540 (X : Nat × (Nat → Int32)) : ins (ML_law X) 540 = some (.iload_n 3) := by show ins (ML_law (0, fun _ => 0)) 540 = _; decide +kernel
theorem i_L_law_541 (X : Nat × (Nat → Int32)) : ins (ML_law X) 541 = some (.iconst 1) := by show ins (ML_law (0, fun _ => 0)) 541 = _; decide +kernel
theorem i_L_law_542 (X : Nat × (Nat → Int32)) : ins (ML_law X) 542 = some (.iadd) := by show ins (ML_law (0, fun _ => 0)) 542 = _; decide +kernel
theorem i_L_law_543 (X : Nat × (Nat → Int32)) : ins (ML_law X) 543 = some (.iaload) := by show ins (ML_law (0, fun _ => 0)) 543 = _; decide +kernel
theorem i_L_law_544 (X : Nat × (Nat → Int32)) : ins (ML_law X) 544 = some (.aload_n 0) := by show ins (ML_law (0, fun _ => 0)) 544 = _; decide +kernel
theorem i_L_law_545 (X : Nat × (Nat → Int32)) : ins (ML_law X) 545 = some (.iload_n 3) := by show ins (ML_law (0, fun _ => 0)) 545 = _; decide +kernel
theorem i_L_law_546 (X : Nat × (Nat → Int32)) : ins (ML_law X) 546 = some (.iconst 2) := by show ins (ML_law (0, fun _ => 0)) 546 = _; decide +kernel
theorem i_L_law_547 (X : Nat × (Nat → Int32)) : ins (ML_law X) 547 = some (.iadd) := by show ins (ML_law (0, fun _ => 0)) 547 = _; decide +kernel
theorem i_L_law_548 (X : Nat × (Nat → Int32)) : ins (ML_law X) 548 = some (.iaload) := by show ins (ML_law (0, fun _ => 0)) 548 = _; decide +kernel
theorem i_L_law_549 (X : Nat × (Nat → Int32)) : ins (ML_law X) 549 = some (.aload_n 0) := by show ins (ML_law (0, fun _ => 0)) 549 = _; decide +kernel
theorem i_L_law_550 (X : Nat × (Nat → Int32)) : ins (ML_law X) 550 = some (.iload_n 3) := by show ins (ML_law (0, fun _ => 0)) 550 = _; decide +kernel
theorem i_L_law_551 (X : Nat × (Nat → Int32)) : ins (ML_law X) 551 = some (.iconst 3) := by show ins (ML_law (0, fun _ => 0)) 551 = _; decide +kernel
theorem i_L_law_552 (X : Nat × (Nat → Int32)) : ins (ML_law X) 552 = some (.iadd) := by show ins (ML_law (0, fun _ => 0)) 552 = _; decide +kernel
theorem i_L_law_553 (X : Nat × (Nat → Int32)) : ins (ML_law X) 553 = some (.iaload) := by show ins (ML_law (0, fun _ => 0)) 553 = _; decide +kernel
theorem i_L_law_554 (X : Nat × (Nat → Int32)) : ins (ML_law X) 554 = some (.invokevirtual 57) := by show ins (ML_law (0, fun _ => 0)) 554 = _; decide +kernel
theorem i_L_law_557 (X : Nat × (Nat → Int32)) : ins (ML_law X) 557 = some (.aload_n 2) := by show ins (ML_law (0, fun _ => 0)) 557 = _; decide +kernel
theorem i_L_law_558 (X : Nat × (Nat → Int32)) : ins (ML_law X) 558 = some (.aload_n 0) := by show ins (ML_law (0, fun _ => 0)) 558 = _; decide +kernel
theorem i_L_law_559 (X : Nat × (Nat → Int32)) : ins (ML_law X) 559 = some (.iload_n 3) := by show ins (ML_law (0, fun _ => 0)) 559 = _; decide +kernel
theorem i_L_law_560 (X : Nat × (Nat → Int32)) : ins (ML_law X) 560 = some (.iconst 1) := by show ins (ML_law (0, fun _ => 0)) 560 = _; decide +kernel
theorem i_L_law_561 (X : Nat × (Nat → Int32)) : ins (ML_law X) 561 = some (.iadd) := by show ins (ML_law (0, fun _ => 0)) 561 = _; decide +kernel
theorem i_L_law_562 (X : Nat × (Nat → Int32)) : ins (ML_law X) 562 = some (.iaload) := by show ins (ML_law (0, fun _ => 0)) 562 = _; decide +kernel
theorem i_L_law_563 (X : Nat × (Nat → Int32)) : ins (ML_law X) 563 = some (.aload_n 0) := by show ins (ML_law (0, fun _ => 0)) 563 = _; decide +kernel
theorem i_L_law_564 (X : Nat × (Nat → Int32)) : ins (ML_law X) 564 = some (.iload_n 3) := by show ins (ML_law (0, fun _ => 0)) 564 = _; decide +kernel
theorem i_L_law_565 (X : Nat × (Nat → Int32)) : ins (ML_law X) 565 = some (.iconst 2) := by show ins (ML_law (0, fun _ => 0)) 565 = _; decide +kernel
theorem i_L_law_566 (X : Nat × (Nat → Int32)) : ins (ML_law X) 566 = some (.iadd) := by show ins (ML_law (0, fun _ => 0)) 566 = _; decide +kernel
theorem i_L_law_567 (X : Nat × (Nat → Int32)) : ins (ML_law X) 567 = some (.iaload) := by show ins (ML_law (0, fun _ => 0)) 567 = _; decide +kernel
theorem i_L_law_568 (X : Nat × (Nat → Int32)) : ins (ML_law X) 568 = some (.aload_n 0) := by show ins (ML_law (0, fun _ => 0)) 568 = _; decide +kernel
theorem i_L_law_569 (X : Nat × (Nat → Int32)) : ins (ML_law X) 569 = some (.iload_n 3) := by show ins (ML_law (0, fun _ => 0)) 569 = _; decide +kernel
theorem i_L_law_570 (X : Nat × (Nat → Int32)) : ins (ML_law X) 570 = some (.iconst 3) := by show ins (ML_law (0, fun _ => 0)) 570 = _; decide +kernel
theorem i_L_law_571 (X : Nat × (Nat → Int32)) : ins (ML_law X) 571 = some (.iadd) := by show ins (ML_law (0, fun _ => 0)) 571 = _; decide +kernel
theorem i_L_law_572 (X : Nat × (Nat → Int32)) : ins (ML_law X) 572 = some (.iaload) := by show ins (ML_law (0, fun _ => 0)) 572 = _; decide +kernel
theorem i_L_law_573 (X : Nat × (Nat → Int32)) : ins (ML_law X) 573 = some (.invokevirtual 61) := by show ins (ML_law (0, fun _ => 0)) 573 = _; decide +kernel
theorem i_L_law_576 (X : Nat × (Nat → Int32)) : ins (ML_law X) 576 = some (.lcmp) := by show ins (ML_law (0, fun _ => 0)) 576 = _; decide +kernel
theorem i_L_law_577 (X : Nat × (Nat → Int32)) : ins (ML_law X) 577 = some (.ifCond .eq 745) := by show ins (ML_law (0, fun _ => 0)) 577 = _; decide +kernel
theorem i_L_law_580 (X : Nat × (Nat → Int32)) : ins (ML_law X) 580 = some (.iconst 0) := by show ins (ML_law (0, fun _ => 0)) 580 = _; decide +kernel
theorem i_L_law_581 (X : Nat × (Nat → Int32)) : ins (ML_law X) 581 = some (.ireturn) := by show ins (ML_law (0, fun _ => 0)) 581 = _; decide +kernel
theorem i_L_law_582 (X : Nat × (Nat → Int32)) : ins (ML_law X) 582 = some (.aload_n 1) := by show ins (ML_law (0, fun _ => 0)) 582 = _; decide +kernel
theorem i_L_law_583 (X : Nat × (Nat → Int32)) : ins (ML_law X) 583 = some (.aload_n 0) := by show ins (ML_law (0, fun _ => 0)) 583 = _; decide +kernel
theorem i_L_law_584 (X : Nat × (Nat → Int32)) : ins (ML_law X) 584 = some (.iload_n 3) := by show ins (ML_law (0, fun _ => 0)) 584 = _; decide +kernel
theorem i_L_law_585 (X : Nat × (Nat → Int32)) : ins (ML_law X) 585 = some (.iconst 1) := by show ins (ML_law (0, fun _ => 0)) 585 = _; decide +kernel
theorem i_L_law_586 (X : Nat × (Nat → Int32)) : ins (ML_law X) 586 = some (.iadd) := by show ins (ML_law (0, fun _ => 0)) 586 = _; decide +kernel
theorem i_L_law_587 (X : Nat × (Nat → Int32)) : ins (ML_law X) 587 = some (.iaload) := by show ins (ML_law (0, fun _ => 0)) 587 = _; decide +kernel
theorem i_L_law_588 (X : Nat × (Nat → Int32)) : ins (ML_law X) 588 = some (.aload_n 0) := by show ins (ML_law (0, fun _ => 0)) 588 = _; decide +kernel
theorem i_L_law_589 (X : Nat × (Nat → Int32)) : ins (ML_law X) 589 = some (.iload_n 3) := by show ins (ML_law (0, fun _ => 0)) 589 = _; decide +kernel
theorem i_L_law_590 (X : Nat × (Nat → Int32)) : ins (ML_law X) 590 = some (.iconst 2) := by show ins (ML_law (0, fun _ => 0)) 590 = _; decide +kernel
theorem i_L_law_591 (X : Nat × (Nat → Int32)) : ins (ML_law X) 591 = some (.iadd) := by show ins (ML_law (0, fun _ => 0)) 591 = _; decide +kernel
theorem i_L_law_592 (X : Nat × (Nat → Int32)) : ins (ML_law X) 592 = some (.iaload) := by show ins (ML_law (0, fun _ => 0)) 592 = _; decide +kernel
theorem i_L_law_593 (X : Nat × (Nat → Int32)) : ins (ML_law X) 593 = some (.aload_n 0) := by show ins (ML_law (0, fun _ => 0)) 593 = _; decide +kernel
theorem i_L_law_594 (X : Nat × (Nat → Int32)) : ins (ML_law X) 594 = some (.iload_n 3) := by show ins (ML_law (0, fun _ => 0)) 594 = _; decide +kernel
theorem i_L_law_595 (X : Nat × (Nat → Int32)) : ins (ML_law X) 595 = some (.iconst 3) := by show ins (ML_law (0, fun _ => 0)) 595 = _; decide +kernel
theorem i_L_law_596 (X : Nat × (Nat → Int32)) : ins (ML_law X) 596 = some (.iadd) := by show ins (ML_law (0, fun _ => 0)) 596 = _; decide +kernel
theorem i_L_law_597 (X : Nat × (Nat → Int32)) : ins (ML_law X) 597 = some (.iaload) := by show ins (ML_law (0, fun _ => 0)) 597 = _; decide +kernel
theorem i_L_law_598 (X : Nat × (Nat → Int32)) : ins (ML_law X) 598 = some (.invokevirtual 62) := by show ins (ML_law (0, fun _ => 0)) 598 = _; decide +kernel
theorem i_L_law_601 (X : Nat × (Nat → Int32)) : ins (ML_law X) 601 = some (.aload_n 2) := by show ins (ML_law (0, fun _ => 0)) 601 = _; decide +kernel
theorem i_L_law_602 (X : Nat × (Nat → Int32)) : ins (ML_law X) 602 = some (.aload_n 0) := by show ins (ML_law (0, fun _ => 0)) 602 = _; decide +kernel
theorem i_L_law_603 (X : Nat × (Nat → Int32)) : ins (ML_law X) 603 = some (.iload_n 3) := by show ins (ML_law (0, fun _ => 0)) 603 = _; decide +kernel
theorem i_L_law_604 (X : Nat × (Nat → Int32)) : ins (ML_law X) 604 = some (.iconst 1) := by show ins (ML_law (0, fun _ => 0)) 604 = _; decide +kernel
theorem i_L_law_605 (X : Nat × (Nat → Int32)) : ins (ML_law X) 605 = some (.iadd) := by show ins (ML_law (0, fun _ => 0)) 605 = _; decide +kernel
theorem i_L_law_606 (X : Nat × (Nat → Int32)) : ins (ML_law X) 606 = some (.iaload) := by show ins (ML_law (0, fun _ => 0)) 606 = _; decide +kernel
theorem i_L_law_607 (X : Nat × (Nat → Int32)) : ins (ML_law X) 607 = some (.aload_n 0) := by show ins (ML_law (0, fun _ => 0)) 607 = _; decide +kernel
theorem i_L_law_608 (X : Nat × (Nat → Int32)) : ins (ML_law X) 608 = some (.iload_n 3) := by show ins (ML_law (0, fun _ => 0)) 608 = _; decide +kernel
theorem i_L_law_609 (X : Nat × (Nat → Int32)) : ins (ML_law X) 609 = some (.iconst 2) := by show ins (ML_law (0, fun _ => 0)) 609 = _; decide +kernel
theorem i_L_law_610 (X : Nat × (Nat → Int32)) : ins (ML_law X) 610 = some (.iadd) := by show ins (ML_law (0, fun _ => 0)) 610 = _; decide +kernel
theorem i_L_law_611 (X : Nat × (Nat → Int32)) : ins (ML_law X) 611 = some (.iaload) := by show ins (ML_law (0, fun _ => 0)) 611 = _; decide +kernel
theorem i_L_law_612 (X : Nat × (Nat → Int32)) : ins (ML_law X) 612 = some (.aload_n 0) := by show ins (ML_law (0, fun _ => 0)) 612 = _; decide +kernel
theorem i_L_law_613 (X : Nat × (Nat → Int32)) : ins (ML_law X) 613 = some (.iload_n 3) := by show ins (ML_law (0, fun _ => 0)) 613 = _; decide +kernel
theorem i_L_law_614 (X : Nat × (Nat → Int32)) : ins (ML_law X) 614 = some (.iconst 3) := by show ins (ML_law (0, fun _ => 0)) 614 = _; decide +kernel
theorem i_L_law_615 (X : Nat × (Nat → Int32)) : ins (ML_law X) 615 = some (.iadd) := by show ins (ML_law (0, fun _ => 0)) 615 = _; decide +kernel
theorem i_L_law_616 (X : Nat × (Nat → Int32)) : ins (ML_law X) 616 = some (.iaload) := by show ins (ML_law (0, fun _ => 0)) 616 = _; decide +kernel
theorem i_L_law_617 (X : Nat × (Nat → Int32)) : ins (ML_law X) 617 = some (.invokevirtual 65) := by show ins (ML_law (0, fun _ => 0)) 617 = _; decide +kernel
theorem i_L_law_620 (X : Nat × (Nat → Int32)) : ins (ML_law X) 620 = some (.if_icmp .eq 702) := by show ins (ML_law (0, fun _ => 0)) 620 = _; decide +kernel
theorem i_L_law_623 (X : Nat × (Nat → Int32)) : ins (ML_law X) 623 = some (.iconst 0) := by show ins (ML_law (0, fun _ => 0)) 623 = _; decide +kernel
theorem i_L_law_624 (X : Nat × (Nat → Int32)) : ins (ML_law X) 624 = some (.ireturn) := by show ins (ML_law (0, fun _ => 0)) 624 = _; decide +kernel
theorem i_L_law_625 (X : Nat × (Nat → Int32)) : ins (ML_law X) 625 = some (.aload_n 1) := by show ins (ML_law (0, fun _ => 0)) 625 = _; decide +kernel
theorem i_L_law_626 (X : Nat × (Nat → Int32)) : ins (ML_law X) 626 = some (.aload_n 0) := by show ins (ML_law (0, fun _ => 0)) 626 = _; decide +kernel
theorem i_L_law_627 (X : Nat × (Nat → Int32)) : ins (ML_law X) 627 = some (.iload_n 3) := by show ins (ML_law (0, fun _ => 0)) 627 = _; decide +kernel
theorem i_L_law_628 (X : Nat × (Nat → Int32)) : ins (ML_law X) 628 = some (.iconst 1) := by show ins (ML_law (0, fun _ => 0)) 628 = _; decide +kernel
theorem i_L_law_629 (X : Nat × (Nat → Int32)) : ins (ML_law X) 629 = some (.iadd) := by show ins (ML_law (0, fun _ => 0)) 629 = _; decide +kernel
theorem i_L_law_630 (X : Nat × (Nat → Int32)) : ins (ML_law X) 630 = some (.iaload) := by show ins (ML_law (0, fun _ => 0)) 630 = _; decide +kernel
theorem i_L_law_631 (X : Nat × (Nat → Int32)) : ins (ML_law X) 631 = some (.aload_n 0) := by show ins (ML_law (0, fun _ => 0)) 631 = _; decide +kernel
theorem i_L_law_632 (X : Nat × (Nat → Int32)) : ins (ML_law X) 632 = some (.iload_n 3) := by show ins (ML_law (0, fun _ => 0)) 632 = _; decide +kernel
theorem i_L_law_633 (X : Nat × (Nat → Int32)) : ins (ML_law X) 633 = some (.iconst 2) := by show ins (ML_law (0, fun _ => 0)) 633 = _; decide +kernel
theorem i_L_law_634 (X : Nat × (Nat → Int32)) : ins (ML_law X) 634 = some (.iadd) := by show ins (ML_law (0, fun _ => 0)) 634 = _; decide +kernel
theorem i_L_law_635 (X : Nat × (Nat → Int32)) : ins (ML_law X) 635 = some (.iaload) := by show ins (ML_law (0, fun _ => 0)) 635 = _; decide +kernel
theorem i_L_law_636 (X : Nat × (Nat → Int32)) : ins (ML_law X) 636 = some (.aload_n 0) := by show ins (ML_law (0, fun _ => 0)) 636 = _; decide +kernel
theorem i_L_law_637 (X : Nat × (Nat → Int32)) : ins (ML_law X) 637 = some (.iload_n 3) := by show ins (ML_law (0, fun _ => 0)) 637 = _; decide +kernel
theorem i_L_law_638 (X : Nat × (Nat → Int32)) : ins (ML_law X) 638 = some (.iconst 3) := by show ins (ML_law (0, fun _ => 0)) 638 = _; decide +kernel
theorem i_L_law_639 (X : Nat × (Nat → Int32)) : ins (ML_law X) 639 = some (.iadd) := by show ins (ML_law (0, fun _ => 0)) 639 = _; decide +kernel
theorem i_L_law_640 (X : Nat × (Nat → Int32)) : ins (ML_law X) 640 = some (.iaload) := by show ins (ML_law (0, fun _ => 0)) 640 = _; decide +kernel
theorem i_L_law_641 (X : Nat × (Nat → Int32)) : ins (ML_law X) 641 = some (.aload_n 0) := by show ins (ML_law (0, fun _ => 0)) 641 = _; decide +kernel
theorem i_L_law_642 (X : Nat × (Nat → Int32)) : ins (ML_law X) 642 = some (.iload_n 3) := by show ins (ML_law (0, fun _ => 0)) 642 = _; decide +kernel
theorem i_L_law_643 (X : Nat × (Nat → Int32)) : ins (ML_law X) 643 = some (.iconst 4) := by show ins (ML_law (0, fun _ => 0)) 643 = _; decide +kernel
theorem i_L_law_644 (X : Nat × (Nat → Int32)) : ins (ML_law X) 644 = some (.iadd) := by show ins (ML_law (0, fun _ => 0)) 644 = _; decide +kernel
theorem i_L_law_645 (X : Nat × (Nat → Int32)) : ins (ML_law X) 645 = some (.iaload) := by show ins (ML_law (0, fun _ => 0)) 645 = _; decide +kernel
theorem i_L_law_646 (X : Nat × (Nat → Int32)) : ins (ML_law X) 646 = some (.aload_n 0) := by show ins (ML_law (0, fun _ => 0)) 646 = _; decide +kernel
theorem i_L_law_647 (X : Nat × (Nat → Int32)) : ins (ML_law X) 647 = some (.iload_n 3) := by show ins (ML_law (0, fun _ => 0)) 647 = _; decide +kernel
theorem i_L_law_648 (X : Nat × (Nat → Int32)) : ins (ML_law X) 648 = some (.iconst 5) := by show ins (ML_law (0, fun _ => 0)) 648 = _; decide +kernel
theorem i_L_law_649 (X : Nat × (Nat → Int32)) : ins (ML_law X) 649 = some (.iadd) := by show ins (ML_law (0, fun _ => 0)) 649 = _; decide +kernel
theorem i_L_law_650 (X : Nat × (Nat → Int32)) : ins (ML_law X) 650 = some (.iaload) := by show ins (ML_law (0, fun _ => 0)) 650 = _; decide +kernel
theorem i_L_law_651 (X : Nat × (Nat → Int32)) : ins (ML_law X) 651 = some (.invokevirtual 66) := by show ins (ML_law (0, fun _ => 0)) 651 = _; decide +kernel
theorem i_L_law_654 (X : Nat × (Nat → Int32)) : ins (ML_law X) 654 = some (.aload_n 2) := by show ins (ML_law (0, fun _ => 0)) 654 = _; decide +kernel
theorem i_L_law_655 (X : Nat × (Nat → Int32)) : ins (ML_law X) 655 = some (.aload_n 0) := by show ins (ML_law (0, fun _ => 0)) 655 = _; decide +kernel
theorem i_L_law_656 (X : Nat × (Nat → Int32)) : ins (ML_law X) 656 = some (.iload_n 3) := by show ins (ML_law (0, fun _ => 0)) 656 = _; decide +kernel
theorem i_L_law_657 (X : Nat × (Nat → Int32)) : ins (ML_law X) 657 = some (.iconst 1) := by show ins (ML_law (0, fun _ => 0)) 657 = _; decide +kernel
theorem i_L_law_658 (X : Nat × (Nat → Int32)) : ins (ML_law X) 658 = some (.iadd) := by show ins (ML_law (0, fun _ => 0)) 658 = _; decide +kernel
theorem i_L_law_659 (X : Nat × (Nat → Int32)) : ins (ML_law X) 659 = some (.iaload) := by show ins (ML_law (0, fun _ => 0)) 659 = _; decide +kernel
theorem i_L_law_660 (X : Nat × (Nat → Int32)) : ins (ML_law X) 660 = some (.aload_n 0) := by show ins (ML_law (0, fun _ => 0)) 660 = _; decide +kernel
theorem i_L_law_661 (X : Nat × (Nat → Int32)) : ins (ML_law X) 661 = some (.iload_n 3) := by show ins (ML_law (0, fun _ => 0)) 661 = _; decide +kernel
theorem i_L_law_662 (X : Nat × (Nat → Int32)) : ins (ML_law X) 662 = some (.iconst 2) := by show ins (ML_law (0, fun _ => 0)) 662 = _; decide +kernel
theorem i_L_law_663 (X : Nat × (Nat → Int32)) : ins (ML_law X) 663 = some (.iadd) := by show ins (ML_law (0, fun _ => 0)) 663 = _; decide +kernel
theorem i_L_law_664 (X : Nat × (Nat → Int32)) : ins (ML_law X) 664 = some (.iaload) := by show ins (ML_law (0, fun _ => 0)) 664 = _; decide +kernel
theorem i_L_law_665 (X : Nat × (Nat → Int32)) : ins (ML_law X) 665 = some (.aload_n 0) := by show ins (ML_law (0, fun _ => 0)) 665 = _; decide +kernel
theorem i_L_law_666 (X : Nat × (Nat → Int32)) : ins (ML_law X) 666 = some (.iload_n 3) := by show ins (ML_law (0, fun _ => 0)) 666 = _; decide +kernel
theorem i_L_law_667 (X : Nat × (Nat → Int32)) : ins (ML_law X) 667 = some (.iconst 3) := by show ins (ML_law (0, fun _ => 0)) 667 = _; decide +kernel
theorem i_L_law_668 (X : Nat × (Nat → Int32)) : ins (ML_law X) 668 = some (.iadd) := by show ins (ML_law (0, fun _ => 0)) 668 = _; decide +kernel
theorem i_L_law_669 (X : Nat × (Nat → Int32)) : ins (ML_law X) 669 = some (.iaload) := by show ins (ML_law (0, fun _ => 0)) 669 = _; decide +kernel
theorem i_L_law_670 (X : Nat × (Nat → Int32)) : ins (ML_law X) 670 = some (.aload_n 0) := by show ins (ML_law (0, fun _ => 0)) 670 = _; decide +kernel
theorem i_L_law_671 (X : Nat × (Nat → Int32)) : ins (ML_law X) 671 = some (.iload_n 3) := by show ins (ML_law (0, fun _ => 0)) 671 = _; decide +kernel
theorem i_L_law_672 (X : Nat × (Nat → Int32)) : ins (ML_law X) 672 = some (.iconst 4) := by show ins (ML_law (0, fun _ => 0)) 672 = _; decide +kernel
theorem i_L_law_673 (X : Nat × (Nat → Int32)) : ins (ML_law X) 673 = some (.iadd) := by show ins (ML_law (0, fun _ => 0)) 673 = _; decide +kernel
theorem i_L_law_674 (X : Nat × (Nat → Int32)) : ins (ML_law X) 674 = some (.iaload) := by show ins (ML_law (0, fun _ => 0)) 674 = _; decide +kernel
theorem i_L_law_675 (X : Nat × (Nat → Int32)) : ins (ML_law X) 675 = some (.aload_n 0) := by show ins (ML_law (0, fun _ => 0)) 675 = _; decide +kernel
theorem i_L_law_676 (X : Nat × (Nat → Int32)) : ins (ML_law X) 676 = some (.iload_n 3) := by show ins (ML_law (0, fun _ => 0)) 676 = _; decide +kernel
theorem i_L_law_677 (X : Nat × (Nat → Int32)) : ins (ML_law X) 677 = some (.iconst 5) := by show ins (ML_law (0, fun _ => 0)) 677 = _; decide +kernel
theorem i_L_law_678 (X : Nat × (Nat → Int32)) : ins (ML_law X) 678 = some (.iadd) := by show ins (ML_law (0, fun _ => 0)) 678 = _; decide +kernel
theorem i_L_law_679 (X : Nat × (Nat → Int32)) : ins (ML_law X) 679 = some (.iaload) := by show ins (ML_law (0, fun _ => 0)) 679 = _; decide +kernel
theorem i_L_law_680 (X : Nat × (Nat → Int32)) : ins (ML_law X) 680 = some (.invokevirtual 70) := by show ins (ML_law (0, fun _ => 0)) 680 = _; decide +kernel
theorem i_L_law_683 (X : Nat × (Nat → Int32)) : ins (ML_law X) 683 = some (.if_icmp .eq 639) := by show ins (ML_law (0, fun _ => 0)) 683 = _; decide +kernel
theorem i_L_law_686 (X : Nat × (Nat → Int32)) : ins (ML_law X) 686 = some (.iconst 0) := by show ins (ML_law (0, fun _ => 0)) 686 = _; decide +kernel
theorem i_L_law_687 (X : Nat × (Nat → Int32)) : ins (ML_law X) 687 = some (.ireturn) := by show ins (ML_law (0, fun _ => 0)) 687 = _; decide +kernel
theorem i_L_law_688 (X : Nat × (Nat → Int32)) : ins (ML_law X) 688 = some (.aload_n 1) := by show ins (ML_law (0, fun _ => 0)) 688 = _; decide +kernel
theorem i_L_law_689 (X : Nat × (Nat → Int32)) : ins (ML_law X) 689 = some (.aload_n 0) := by show ins (ML_law (0, fun _ => 0)) 689 = _; decide +kernel
theorem i_L_law_690 (X : Nat × (Nat → Int32)) : ins (ML_law X) 690 = some (.iload_n 3) := by show ins (ML_law (0, fun _ => 0)) 690 = _; decide +kernel
theorem i_L_law_691 (X : Nat × (Nat → Int32)) : ins (ML_law X) 691 = some (.iconst 1) := by show ins (ML_law (0, fun _ => 0)) 691 = _; decide +kernel
theorem i_L_law_692 (X : Nat × (Nat → Int32)) : ins (ML_law X) 692 = some (.iadd) := by show ins (ML_law (0, fun _ => 0)) 692 = _; decide +kernel
theorem i_L_law_693 (X : Nat × (Nat → Int32)) : ins (ML_law X) 693 = some (.iaload) := by show ins (ML_law (0, fun _ => 0)) 693 = _; decide +kernel
theorem i_L_law_694 (X : Nat × (Nat → Int32)) : ins (ML_law X) 694 = some (.i2l) := by show ins (ML_law (0, fun _ => 0)) 694 = _; decide +kernel
theorem i_L_law_695 (X : Nat × (Nat → Int32)) : ins (ML_law X) 695 = some (.bipush 32) := by show ins (ML_law (0, fun _ => 0)) 695 = _; decide +kernel
theorem i_L_law_697 (X : Nat × (Nat → Int32)) : ins (ML_law X) 697 = some (.lshl) := by show ins (ML_law (0, fun _ => 0)) 697 = _; decide +kernel
theorem i_L_law_698 (X : Nat × (Nat → Int32)) : ins (ML_law X) 698 = some (.aload_n 0) := by show ins (ML_law (0, fun _ => 0)) 698 = _; decide +kernel
theorem i_L_law_699 (X : Nat × (Nat → Int32)) : ins (ML_law X) 699 = some (.iload_n 3) := by show ins (ML_law (0, fun _ => 0)) 699 = _; decide +kernel
theorem i_L_law_700 (X : Nat × (Nat → Int32)) : ins (ML_law X) 700 = some (.iconst 2) := by show ins (ML_law (0, fun _ => 0)) 700 = _; decide +kernel
theorem i_L_law_701 (X : Nat × (Nat → Int32)) : ins (ML_law X) 701 = some (.iadd) := by show ins (ML_law (0, fun _ => 0)) 701 = _; decide +kernel
theorem i_L_law_702 (X : Nat × (Nat → Int32)) : ins (ML_law X) 702 = some (.iaload) := by show ins (ML_law (0, fun _ => 0)) 702 = _; decide +kernel
theorem i_L_law_703 (X : Nat × (Nat → Int32)) : ins (ML_law X) 703 = some (.i2l) := by show ins (ML_law (0, fun _ => 0)) 703 = _; decide +kernel
theorem i_L_law_704 (X : Nat × (Nat → Int32)) : ins (ML_law X) 704 = some (.ldc2_w 41) := by show ins (ML_law (0, fun _ => 0)) 704 = _; decide +kernel
theorem i_L_law_707 (X : Nat × (Nat → Int32)) : ins (ML_law X) 707 = some (.land) := by show ins (ML_law (0, fun _ => 0)) 707 = _; decide +kernel
theorem i_L_law_708 (X : Nat × (Nat → Int32)) : ins (ML_law X) 708 = some (.lor) := by show ins (ML_law (0, fun _ => 0)) 708 = _; decide +kernel
theorem i_L_law_709 (X : Nat × (Nat → Int32)) : ins (ML_law X) 709 = some (.invokevirtual 71) := by show ins (ML_law (0, fun _ => 0)) 709 = _; decide +kernel
theorem i_L_law_712 (X : Nat × (Nat → Int32)) : ins (ML_law X) 712 = some (.aload_n 2) := by show ins (ML_law (0, fun _ => 0)) 712 = _; decide +kernel
theorem i_L_law_713 (X : Nat × (Nat → Int32)) : ins (ML_law X) 713 = some (.aload_n 0) := by show ins (ML_law (0, fun _ => 0)) 713 = _; decide +kernel
theorem i_L_law_714 (X : Nat × (Nat → Int32)) : ins (ML_law X) 714 = some (.iload_n 3) := by show ins (ML_law (0, fun _ => 0)) 714 = _; decide +kernel
theorem i_L_law_715 (X : Nat × (Nat → Int32)) : ins (ML_law X) 715 = some (.iconst 1) := by show ins (ML_law (0, fun _ => 0)) 715 = _; decide +kernel
theorem i_L_law_716 (X : Nat × (Nat → Int32)) : ins (ML_law X) 716 = some (.iadd) := by show ins (ML_law (0, fun _ => 0)) 716 = _; decide +kernel
theorem i_L_law_717 (X : Nat × (Nat → Int32)) : ins (ML_law X) 717 = some (.iaload) := by show ins (ML_law (0, fun _ => 0)) 717 = _; decide +kernel
theorem i_L_law_718 (X : Nat × (Nat → Int32)) : ins (ML_law X) 718 = some (.i2l) := by show ins (ML_law (0, fun _ => 0)) 718 = _; decide +kernel
theorem i_L_law_719 (X : Nat × (Nat → Int32)) : ins (ML_law X) 719 = some (.bipush 32) := by show ins (ML_law (0, fun _ => 0)) 719 = _; decide +kernel
theorem i_L_law_721 (X : Nat × (Nat → Int32)) : ins (ML_law X) 721 = some (.lshl) := by show ins (ML_law (0, fun _ => 0)) 721 = _; decide +kernel
theorem i_L_law_722 (X : Nat × (Nat → Int32)) : ins (ML_law X) 722 = some (.aload_n 0) := by show ins (ML_law (0, fun _ => 0)) 722 = _; decide +kernel
theorem i_L_law_723 (X : Nat × (Nat → Int32)) : ins (ML_law X) 723 = some (.iload_n 3) := by show ins (ML_law (0, fun _ => 0)) 723 = _; decide +kernel
theorem i_L_law_724 (X : Nat × (Nat → Int32)) : ins (ML_law X) 724 = some (.iconst 2) := by show ins (ML_law (0, fun _ => 0)) 724 = _; decide +kernel
theorem i_L_law_725 (X : Nat × (Nat → Int32)) : ins (ML_law X) 725 = some (.iadd) := by show ins (ML_law (0, fun _ => 0)) 725 = _; decide +kernel
theorem i_L_law_726 (X : Nat × (Nat → Int32)) : ins (ML_law X) 726 = some (.iaload) := by show ins (ML_law (0, fun _ => 0)) 726 = _; decide +kernel
theorem i_L_law_727 (X : Nat × (Nat → Int32)) : ins (ML_law X) 727 = some (.i2l) := by show ins (ML_law (0, fun _ => 0)) 727 = _; decide +kernel
theorem i_L_law_728 (X : Nat × (Nat → Int32)) : ins (ML_law X) 728 = some (.ldc2_w 41) := by show ins (ML_law (0, fun _ => 0)) 728 = _; decide +kernel
theorem i_L_law_731 (X : Nat × (Nat → Int32)) : ins (ML_law X) 731 = some (.land) := by show ins (ML_law (0, fun _ => 0)) 731 = _; decide +kernel
theorem i_L_law_732 (X : Nat × (Nat → Int32)) : ins (ML_law X) 732 = some (.lor) := by show ins (ML_law (0, fun _ => 0)) 732 = _; decide +kernel
theorem i_L_law_733 (X : Nat × (Nat → Int32)) : ins (ML_law X) 733 = some (.invokevirtual 75) := by show ins (ML_law (0, fun _ => 0)) 733 = _; decide +kernel
theorem i_L_law_736 (X : Nat × (Nat → Int32)) : ins (ML_law X) 736 = some (.if_icmp .eq 586) := by show ins (ML_law (0, fun _ => 0)) 736 = _; decide +kernel
theorem i_L_law_739 (X : Nat × (Nat → Int32)) : ins (ML_law X) 739 = some (.iconst 0) := by show ins (ML_law (0, fun _ => 0)) 739 = _; decide +kernel
theorem i_L_law_740 (X : Nat × (Nat → Int32)) : ins (ML_law X) 740 = some (.ireturn) := by show ins (ML_law (0, fun _ => 0)) 740 = _; decide +kernel
theorem i_L_law_741 (X : Nat × (Nat → Int32)) : ins (ML_law X) 741 = some (.aload_n 1) := by show ins (ML_law (0, fun _ => 0)) 741 = _; decide +kernel
theorem i_L_law_742 (X : Nat × (Nat → Int32)) : ins (ML_law X) 742 = some (.invokevirtual 76) := by show ins (ML_law (0, fun _ => 0)) 742 = _; decide +kernel
theorem i_L_law_745 (X : Nat × (Nat → Int32)) : ins (ML_law X) 745 = some (.aload_n 2) := by show ins (ML_law (0, fun _ => 0)) 745 = _; decide +kernel
theorem i_L_law_746 (X : Nat × (Nat → Int32)) : ins (ML_law X) 746 = some (.invokevirtual 80) := by show ins (ML_law (0, fun _ => 0)) 746 = _; decide +kernel
theorem i_L_law_749 (X : Nat × (Nat → Int32)) : ins (ML_law X) 749 = some (.if_icmp .eq 573) := by show ins (ML_law (0, fun _ => 0)) 749 = _; decide +kernel
theorem i_L_law_752 (X : Nat × (Nat → Int32)) : ins (ML_law X) 752 = some (.iconst 0) := by show ins (ML_law (0, fun _ => 0)) 752 = _; decide +kernel
theorem i_L_law_753 (X : Nat × (Nat → Int32)) : ins (ML_law X) 753 = some (.ireturn) := by show ins (ML_law (0, fun _ => 0)) 753 = _; decide +kernel
theorem i_L_law_754 (X : Nat × (Nat → Int32)) : ins (ML_law X) 754 = some (.aload_n 1) := by show ins (ML_law (0, fun _ => 0)) 754 = _; decide +kernel
theorem i_L_law_755 (X : Nat × (Nat → Int32)) : ins (ML_law X) 755 = some (.invokevirtual 81) := by show ins (ML_law (0, fun _ => 0)) 755 = _; decide +kernel
theorem i_L_law_758 (X : Nat × (Nat → Int32)) : ins (ML_law X) 758 = some (.aload_n 2) := by show ins (ML_law (0, fun _ => 0)) 758 = _; decide +kernel
theorem i_L_law_759 (X : Nat × (Nat → Int32)) : ins (ML_law X) 759 = some (.invokevirtual 84) := by show ins (ML_law (0, fun _ => 0)) 759 = _; decide +kernel
theorem i_L_law_762 (X : Nat × (Nat → Int32)) : ins (ML_law X) 762 = some (.if_icmp .eq 560) := by show ins (ML_law (0, fun _ => 0)) 762 = _; decide +kernel
theorem i_L_law_765 (X : Nat × (Nat → Int32)) : ins (ML_law X) 765 = some (.iconst 0) := by show ins (ML_law (0, fun _ => 0)) 765 = _; decide +kernel
theorem i_L_law_766 (X : Nat × (Nat → Int32)) : ins (ML_law X) 766 = some (.ireturn) := by show ins (ML_law (0, fun _ => 0)) 766 = _; decide +kernel
theorem i_L_law_767 (X : Nat × (Nat → Int32)) : ins (ML_law X) 767 = some (.aload_n 1) := by show ins (ML_law (0, fun _ => 0)) 767 = _; decide +kernel
theorem i_L_law_768 (X : Nat × (Nat → Int32)) : ins (ML_law X) 768 = some (.invokevirtual 85) := by show ins (ML_law (0, fun _ => 0)) 768 = _; decide +kernel
theorem i_L_law_771 (X : Nat × (Nat → Int32)) : ins (ML_law X) 771 = some (.aload_n 2) := by show ins (ML_law (0, fun _ => 0)) 771 = _; decide +kernel
theorem i_L_law_772 (X : Nat × (Nat → Int32)) : ins (ML_law X) 772 = some (.invokevirtual 88) := by show ins (ML_law (0, fun _ => 0)) 772 = _; decide +kernel
theorem i_L_law_775 (X : Nat × (Nat → Int32)) : ins (ML_law X) 775 = some (.if_icmp .eq 547) := by show ins (ML_law (0, fun _ => 0)) 775 = _; decide +kernel
theorem i_L_law_778 (X : Nat × (Nat → Int32)) : ins (ML_law X) 778 = some (.iconst 0) := by show ins (ML_law (0, fun _ => 0)) 778 = _; decide +kernel
theorem i_L_law_779 (X : Nat × (Nat → Int32)) : ins (ML_law X) 779 = some (.ireturn) := by show ins (ML_law (0, fun _ => 0)) 779 = _; decide +kernel
theorem i_L_law_780 (X : Nat × (Nat → Int32)) : ins (ML_law X) 780 = some (.aload_n 1) := by show ins (ML_law (0, fun _ => 0)) 780 = _; decide +kernel
theorem i_L_law_781 (X : Nat × (Nat → Int32)) : ins (ML_law X) 781 = some (.aload_n 0) := by show ins (ML_law (0, fun _ => 0)) 781 = _; decide +kernel
theorem i_L_law_782 (X : Nat × (Nat → Int32)) : ins (ML_law X) 782 = some (.iload_n 3) := by show ins (ML_law (0, fun _ => 0)) 782 = _; decide +kernel
theorem i_L_law_783 (X : Nat × (Nat → Int32)) : ins (ML_law X) 783 = some (.iconst 1) := by show ins (ML_law (0, fun _ => 0)) 783 = _; decide +kernel
theorem i_L_law_784 (X : Nat × (Nat → Int32)) : ins (ML_law X) 784 = some (.iadd) := by show ins (ML_law (0, fun _ => 0)) 784 = _; decide +kernel
theorem i_L_law_785 (X : Nat × (Nat → Int32)) : ins (ML_law X) 785 = some (.iaload) := by show ins (ML_law (0, fun _ => 0)) 785 = _; decide +kernel
theorem i_L_law_786 (X : Nat × (Nat → Int32)) : ins (ML_law X) 786 = some (.invokevirtual 89) := by show ins (ML_law (0, fun _ => 0)) 786 = _; decide +kernel
theorem i_L_law_789 (X : Nat × (Nat → Int32)) : ins (ML_law X) 789 = some (.aload_n 2) := by show ins (ML_law (0, fun _ => 0)) 789 = _; decide +kernel
theorem i_L_law_790 (X : Nat × (Nat → Int32)) : ins (ML_law X) 790 = some (.aload_n 0) := by show ins (ML_law (0, fun _ => 0)) 790 = _; decide +kernel
theorem i_L_law_791 (X : Nat × (Nat → Int32)) : ins (ML_law X) 791 = some (.iload_n 3) := by show ins (ML_law (0, fun _ => 0)) 791 = _; decide +kernel
theorem i_L_law_792 (X : Nat × (Nat → Int32)) : ins (ML_law X) 792 = some (.iconst 1) := by show ins (ML_law (0, fun _ => 0)) 792 = _; decide +kernel
theorem i_L_law_793 (X : Nat × (Nat → Int32)) : ins (ML_law X) 793 = some (.iadd) := by show ins (ML_law (0, fun _ => 0)) 793 = _; decide +kernel
theorem i_L_law_794 (X : Nat × (Nat → Int32)) : ins (ML_law X) 794 = some (.iaload) := by show ins (ML_law (0, fun _ => 0)) 794 = _; decide +kernel
theorem i_L_law_795 (X : Nat × (Nat → Int32)) : ins (ML_law X) 795 = some (.invokevirtual 93) := by show ins (ML_law (0, fun _ => 0)) 795 = _; decide +kernel
theorem i_L_law_798 (X : Nat × (Nat → Int32)) : ins (ML_law X) 798 = some (.lcmp) := by show ins (ML_law (0, fun _ => 0)) 798 = _; decide +kernel
theorem i_L_law_799 (X : Nat × (Nat → Int32)) : ins (ML_law X) 799 = some (.ifCond .eq 523) := by show ins (ML_law (0, fun _ => 0)) 799 = _; decide +kernel
theorem i_L_law_802 (X : Nat × (Nat → Int32)) : ins (ML_law X) 802 = some (.iconst 0) := by show ins (ML_law (0, fun _ => 0)) 802 = _; decide +kernel
theorem i_L_law_803 (X : Nat × (Nat → Int32)) : ins (ML_law X) 803 = some (.ireturn) := by show ins (ML_law (0, fun _ => 0)) 803 = _; decide +kernel
theorem i_L_law_804 (X : Nat × (Nat → Int32)) : ins (ML_law X) 804 = some (.aload_n 1) := by show ins (ML_law (0, fun _ => 0)) 804 = _; decide +kernel
theorem i_L_law_805 (X : Nat × (Nat → Int32)) : ins (ML_law X) 805 = some (.aload_n 0) := by show ins (ML_law (0, fun _ => 0)) 805 = _; decide +kernel
theorem i_L_law_806 (X : Nat × (Nat → Int32)) : ins (ML_law X) 806 = some (.iload_n 3) := by show ins (ML_law (0, fun _ => 0)) 806 = _; decide +kernel
theorem i_L_law_807 (X : Nat × (Nat → Int32)) : ins (ML_law X) 807 = some (.iconst 1) := by show ins (ML_law (0, fun _ => 0)) 807 = _; decide +kernel
theorem i_L_law_808 (X : Nat × (Nat → Int32)) : ins (ML_law X) 808 = some (.iadd) := by show ins (ML_law (0, fun _ => 0)) 808 = _; decide +kernel
theorem i_L_law_809 (X : Nat × (Nat → Int32)) : ins (ML_law X) 809 = some (.iaload) := by show ins (ML_law (0, fun _ => 0)) 809 = _; decide +kernel
theorem i_L_law_810 (X : Nat × (Nat → Int32)) : ins (ML_law X) 810 = some (.aload_n 0) := by show ins (ML_law (0, fun _ => 0)) 810 = _; decide +kernel
theorem i_L_law_811 (X : Nat × (Nat → Int32)) : ins (ML_law X) 811 = some (.iload_n 3) := by show ins (ML_law (0, fun _ => 0)) 811 = _; decide +kernel
theorem i_L_law_812 (X : Nat × (Nat → Int32)) : ins (ML_law X) 812 = some (.iconst 2) := by show ins (ML_law (0, fun _ => 0)) 812 = _; decide +kernel
theorem i_L_law_813 (X : Nat × (Nat → Int32)) : ins (ML_law X) 813 = some (.iadd) := by show ins (ML_law (0, fun _ => 0)) 813 = _; decide +kernel
theorem i_L_law_814 (X : Nat × (Nat → Int32)) : ins (ML_law X) 814 = some (.iaload) := by show ins (ML_law (0, fun _ => 0)) 814 = _; decide +kernel
theorem i_L_law_815 (X : Nat × (Nat → Int32)) : ins (ML_law X) 815 = some (.invokevirtual 94) := by show ins (ML_law (0, fun _ => 0)) 815 = _; decide +kernel
theorem i_L_law_818 (X : Nat × (Nat → Int32)) : ins (ML_law X) 818 = some (.aload_n 2) := by show ins (ML_law (0, fun _ => 0)) 818 = _; decide +kernel
theorem i_L_law_819 (X : Nat × (Nat → Int32)) : ins (ML_law X) 819 = some (.aload_n 0) := by show ins (ML_law (0, fun _ => 0)) 819 = _; decide +kernel
theorem i_L_law_820 (X : Nat × (Nat → Int32)) : ins (ML_law X) 820 = some (.iload_n 3) := by show ins (ML_law (0, fun _ => 0)) 820 = _; decide +kernel
theorem i_L_law_821 (X : Nat × (Nat → Int32)) : ins (ML_law X) 821 = some (.iconst 1) := by show ins (ML_law (0, fun _ => 0)) 821 = _; decide +kernel
theorem i_L_law_822 (X : Nat × (Nat → Int32)) : ins (ML_law X) 822 = some (.iadd) := by show ins (ML_law (0, fun _ => 0)) 822 = _; decide +kernel
theorem i_L_law_823 (X : Nat × (Nat → Int32)) : ins (ML_law X) 823 = some (.iaload) := by show ins (ML_law (0, fun _ => 0)) 823 = _; decide +kernel
theorem i_L_law_824 (X : Nat × (Nat → Int32)) : ins (ML_law X) 824 = some (.aload_n 0) := by show ins (ML_law (0, fun _ => 0)) 824 = _; decide +kernel
theorem i_L_law_825 (X : Nat × (Nat → Int32)) : ins (ML_law X) 825 = some (.iload_n 3) := by show ins (ML_law (0, fun _ => 0)) 825 = _; decide +kernel
theorem i_L_law_826 (X : Nat × (Nat → Int32)) : ins (ML_law X) 826 = some (.iconst 2) := by show ins (ML_law (0, fun _ => 0)) 826 = _; decide +kernel
theorem i_L_law_827 (X : Nat × (Nat → Int32)) : ins (ML_law X) 827 = some (.iadd) := by show ins (ML_law (0, fun _ => 0)) 827 = _; decide +kernel
theorem i_L_law_828 (X : Nat × (Nat → Int32)) : ins (ML_law X) 828 = some (.iaload) := by show ins (ML_law (0, fun _ => 0)) 828 = _; decide +kernel
theorem i_L_law_829 (X : Nat × (Nat → Int32)) : ins (ML_law X) 829 = some (.invokevirtual 97) := by show ins (ML_law (0, fun _ => 0)) 829 = _; decide +kernel
theorem i_L_law_832 (X : Nat × (Nat → Int32)) : ins (ML_law X) 832 = some (.if_icmp .eq 490) := by show ins (ML_law (0, fun _ => 0)) 832 = _; decide +kernel
theorem i_L_law_835 (X : Nat × (Nat → Int32)) : ins (ML_law X) 835 = some (.iconst 0) := by show ins (ML_law (0, fun _ => 0)) 835 = _; decide +kernel
theorem i_L_law_836 (X : Nat × (Nat → Int32)) : ins (ML_law X) 836 = some (.ireturn) := by show ins (ML_law (0, fun _ => 0)) 836 = _; decide +kernel
theorem i_L_law_837 (X : Nat × (Nat → Int32)) : ins (ML_law X) 837 = some (.aload_n 1) := by show ins (ML_law (0, fun _ => 0)) 837 = _; decide +kernel
theorem i_L_law_838 (X : Nat × (Nat → Int32)) : ins (ML_law X) 838 = some (.aload_n 0) := by show ins (ML_law (0, fun _ => 0)) 838 = _; decide +kernel
theorem i_L_law_839 (X : Nat × (Nat → Int32)) : ins (ML_law X) 839 = some (.iload_n 3) := by show ins (ML_law (0, fun _ => 0)) 839 = _; decide +kernel
theorem i_L_law_840 (X : Nat × (Nat → Int32)) : ins (ML_law X) 840 = some (.iconst 1) := by show ins (ML_law (0, fun _ => 0)) 840 = _; decide +kernel
theorem i_L_law_841 (X : Nat × (Nat → Int32)) : ins (ML_law X) 841 = some (.iadd) := by show ins (ML_law (0, fun _ => 0)) 841 = _; decide +kernel
theorem i_L_law_842 (X : Nat × (Nat → Int32)) : ins (ML_law X) 842 = some (.iaload) := by show ins (ML_law (0, fun _ => 0)) 842 = _; decide +kernel
theorem i_L_law_843 (X : Nat × (Nat → Int32)) : ins (ML_law X) 843 = some (.aload_n 0) := by show ins (ML_law (0, fun _ => 0)) 843 = _; decide +kernel
theorem i_L_law_844 (X : Nat × (Nat → Int32)) : ins (ML_law X) 844 = some (.iload_n 3) := by show ins (ML_law (0, fun _ => 0)) 844 = _; decide +kernel
theorem i_L_law_845 (X : Nat × (Nat → Int32)) : ins (ML_law X) 845 = some (.iconst 2) := by show ins (ML_law (0, fun _ => 0)) 845 = _; decide +kernel
theorem i_L_law_846 (X : Nat × (Nat → Int32)) : ins (ML_law X) 846 = some (.iadd) := by show ins (ML_law (0, fun _ => 0)) 846 = _; decide +kernel
theorem i_L_law_847 (X : Nat × (Nat → Int32)) : ins (ML_law X) 847 = some (.iaload) := by show ins (ML_law (0, fun _ => 0)) 847 = _; decide +kernel
theorem i_L_law_848 (X : Nat × (Nat → Int32)) : ins (ML_law X) 848 = some (.invokevirtual 98) := by show ins (ML_law (0, fun _ => 0)) 848 = _; decide +kernel
theorem i_L_law_851 (X : Nat × (Nat → Int32)) : ins (ML_law X) 851 = some (.aload_n 2) := by show ins (ML_law (0, fun _ => 0)) 851 = _; decide +kernel
theorem i_L_law_852 (X : Nat × (Nat → Int32)) : ins (ML_law X) 852 = some (.aload_n 0) := by show ins (ML_law (0, fun _ => 0)) 852 = _; decide +kernel
theorem i_L_law_853 (X : Nat × (Nat → Int32)) : ins (ML_law X) 853 = some (.iload_n 3) := by show ins (ML_law (0, fun _ => 0)) 853 = _; decide +kernel
theorem i_L_law_854 (X : Nat × (Nat → Int32)) : ins (ML_law X) 854 = some (.iconst 1) := by show ins (ML_law (0, fun _ => 0)) 854 = _; decide +kernel
theorem i_L_law_855 (X : Nat × (Nat → Int32)) : ins (ML_law X) 855 = some (.iadd) := by show ins (ML_law (0, fun _ => 0)) 855 = _; decide +kernel
theorem i_L_law_856 (X : Nat × (Nat → Int32)) : ins (ML_law X) 856 = some (.iaload) := by show ins (ML_law (0, fun _ => 0)) 856 = _; decide +kernel
theorem i_L_law_857 (X : Nat × (Nat → Int32)) : ins (ML_law X) 857 = some (.aload_n 0) := by show ins (ML_law (0, fun _ => 0)) 857 = _; decide +kernel
theorem i_L_law_858 (X : Nat × (Nat → Int32)) : ins (ML_law X) 858 = some (.iload_n 3) := by show ins (ML_law (0, fun _ => 0)) 858 = _; decide +kernel
theorem i_L_law_859 (X : Nat × (Nat → Int32)) : ins (ML_law X) 859 = some (.iconst 2) := by show ins (ML_law (0, fun _ => 0)) 859 = _; decide +kernel
theorem i_L_law_860 (X : Nat × (Nat → Int32)) : ins (ML_law X) 860 = some (.iadd) := by show ins (ML_law (0, fun _ => 0)) 860 = _; decide +kernel
theorem i_L_law_861 (X : Nat × (Nat → Int32)) : ins (ML_law X) 861 = some (.iaload) := by show ins (ML_law (0, fun _ => 0)) 861 = _; decide +kernel
theorem i_L_law_862 (X : Nat × (Nat → Int32)) : ins (ML_law X) 862 = some (.invokevirtual 101) := by show ins (ML_law (0, fun _ => 0)) 862 = _; decide +kernel
theorem i_L_law_865 (X : Nat × (Nat → Int32)) : ins (ML_law X) 865 = some (.if_icmp .eq 457) := by show ins (ML_law (0, fun _ => 0)) 865 = _; decide +kernel
theorem i_L_law_868 (X : Nat × (Nat → Int32)) : ins (ML_law X) 868 = some (.iconst 0) := by show ins (ML_law (0, fun _ => 0)) 868 = _; decide +kernel
theorem i_L_law_869 (X : Nat × (Nat → Int32)) : ins (ML_law X) 869 = some (.ireturn) := by show ins (ML_law (0, fun _ => 0)) 869 = _; decide +kernel
theorem i_L_law_870 (X : Nat × (Nat → Int32)) : ins (ML_law X) 870 = some (.aload_n 1) := by show ins (ML_law (0, fun _ => 0)) 870 = _; decide +kernel
theorem i_L_law_871 (X : Nat × (Nat → Int32)) : ins (ML_law X) 871 = some (.aload_n 0) := by show ins (ML_law (0, fun _ => 0)) 871 = _; decide +kernel
theorem i_L_law_872 (X : Nat × (Nat → Int32)) : ins (ML_law X) 872 = some (.iload_n 3) := by show ins (ML_law (0, fun _ => 0)) 872 = _; decide +kernel
theorem i_L_law_873 (X : Nat × (Nat → Int32)) : ins (ML_law X) 873 = some (.iconst 1) := by show ins (ML_law (0, fun _ => 0)) 873 = _; decide +kernel
theorem i_L_law_874 (X : Nat × (Nat → Int32)) : ins (ML_law X) 874 = some (.iadd) := by show ins (ML_law (0, fun _ => 0)) 874 = _; decide +kernel
theorem i_L_law_875 (X : Nat × (Nat → Int32)) : ins (ML_law X) 875 = some (.iaload) := by show ins (ML_law (0, fun _ => 0)) 875 = _; decide +kernel
theorem i_L_law_876 (X : Nat × (Nat → Int32)) : ins (ML_law X) 876 = some (.aload_n 0) := by show ins (ML_law (0, fun _ => 0)) 876 = _; decide +kernel
theorem i_L_law_877 (X : Nat × (Nat → Int32)) : ins (ML_law X) 877 = some (.iload_n 3) := by show ins (ML_law (0, fun _ => 0)) 877 = _; decide +kernel
theorem i_L_law_878 (X : Nat × (Nat → Int32)) : ins (ML_law X) 878 = some (.iconst 2) := by show ins (ML_law (0, fun _ => 0)) 878 = _; decide +kernel
theorem i_L_law_879 (X : Nat × (Nat → Int32)) : ins (ML_law X) 879 = some (.iadd) := by show ins (ML_law (0, fun _ => 0)) 879 = _; decide +kernel
theorem i_L_law_880 (X : Nat × (Nat → Int32)) : ins (ML_law X) 880 = some (.iaload) := by show ins (ML_law (0, fun _ => 0)) 880 = _; decide +kernel
theorem i_L_law_881 (X : Nat × (Nat → Int32)) : ins (ML_law X) 881 = some (.aload_n 0) := by show ins (ML_law (0, fun _ => 0)) 881 = _; decide +kernel
theorem i_L_law_882 (X : Nat × (Nat → Int32)) : ins (ML_law X) 882 = some (.iload_n 3) := by show ins (ML_law (0, fun _ => 0)) 882 = _; decide +kernel
theorem i_L_law_883 (X : Nat × (Nat → Int32)) : ins (ML_law X) 883 = some (.iconst 3) := by show ins (ML_law (0, fun _ => 0)) 883 = _; decide +kernel
theorem i_L_law_884 (X : Nat × (Nat → Int32)) : ins (ML_law X) 884 = some (.iadd) := by show ins (ML_law (0, fun _ => 0)) 884 = _; decide +kernel
theorem i_L_law_885 (X : Nat × (Nat → Int32)) : ins (ML_law X) 885 = some (.iaload) := by show ins (ML_law (0, fun _ => 0)) 885 = _; decide +kernel
theorem i_L_law_886 (X : Nat × (Nat → Int32)) : ins (ML_law X) 886 = some (.invokevirtual 102) := by show ins (ML_law (0, fun _ => 0)) 886 = _; decide +kernel
theorem i_L_law_889 (X : Nat × (Nat → Int32)) : ins (ML_law X) 889 = some (.aload_n 2) := by show ins (ML_law (0, fun _ => 0)) 889 = _; decide +kernel
theorem i_L_law_890 (X : Nat × (Nat → Int32)) : ins (ML_law X) 890 = some (.aload_n 0) := by show ins (ML_law (0, fun _ => 0)) 890 = _; decide +kernel
theorem i_L_law_891 (X : Nat × (Nat → Int32)) : ins (ML_law X) 891 = some (.iload_n 3) := by show ins (ML_law (0, fun _ => 0)) 891 = _; decide +kernel
theorem i_L_law_892 (X : Nat × (Nat → Int32)) : ins (ML_law X) 892 = some (.iconst 1) := by show ins (ML_law (0, fun _ => 0)) 892 = _; decide +kernel
theorem i_L_law_893 (X : Nat × (Nat → Int32)) : ins (ML_law X) 893 = some (.iadd) := by show ins (ML_law (0, fun _ => 0)) 893 = _; decide +kernel
theorem i_L_law_894 (X : Nat × (Nat → Int32)) : ins (ML_law X) 894 = some (.iaload) := by show ins (ML_law (0, fun _ => 0)) 894 = _; decide +kernel
theorem i_L_law_895 (X : Nat × (Nat → Int32)) : ins (ML_law X) 895 = some (.aload_n 0) := by show ins (ML_law (0, fun _ => 0)) 895 = _; decide +kernel
theorem i_L_law_896 (X : Nat × (Nat → Int32)) : ins (ML_law X) 896 = some (.iload_n 3) := by show ins (ML_law (0, fun _ => 0)) 896 = _; decide +kernel
theorem i_L_law_897 (X : Nat × (Nat → Int32)) : ins (ML_law X) 897 = some (.iconst 2) := by show ins (ML_law (0, fun _ => 0)) 897 = _; decide +kernel
theorem i_L_law_898 (X : Nat × (Nat → Int32)) : ins (ML_law X) 898 = some (.iadd) := by show ins (ML_law (0, fun _ => 0)) 898 = _; decide +kernel
theorem i_L_law_899 (X : Nat × (Nat → Int32)) : ins (ML_law X) 899 = some (.iaload) := by show ins (ML_law (0, fun _ => 0)) 899 = _; decide +kernel
theorem i_L_law_900 (X : Nat × (Nat → Int32)) : ins (ML_law X) 900 = some (.aload_n 0) := by show ins (ML_law (0, fun _ => 0)) 900 = _; decide +kernel
theorem i_L_law_901 (X : Nat × (Nat → Int32)) : ins (ML_law X) 901 = some (.iload_n 3) := by show ins (ML_law (0, fun _ => 0)) 901 = _; decide +kernel
theorem i_L_law_902 (X : Nat × (Nat → Int32)) : ins (ML_law X) 902 = some (.iconst 3) := by show ins (ML_law (0, fun _ => 0)) 902 = _; decide +kernel
theorem i_L_law_903 (X : Nat × (Nat → Int32)) : ins (ML_law X) 903 = some (.iadd) := by show ins (ML_law (0, fun _ => 0)) 903 = _; decide +kernel
theorem i_L_law_904 (X : Nat × (Nat → Int32)) : ins (ML_law X) 904 = some (.iaload) := by show ins (ML_law (0, fun _ => 0)) 904 = _; decide +kernel
theorem i_L_law_905 (X : Nat × (Nat → Int32)) : ins (ML_law X) 905 = some (.invokevirtual 105) := by show ins (ML_law (0, fun _ => 0)) 905 = _; decide +kernel
theorem i_L_law_908 (X : Nat × (Nat → Int32)) : ins (ML_law X) 908 = some (.if_icmp .eq 414) := by show ins (ML_law (0, fun _ => 0)) 908 = _; decide +kernel
theorem i_L_law_911 (X : Nat × (Nat → Int32)) : ins (ML_law X) 911 = some (.iconst 0) := by show ins (ML_law (0, fun _ => 0)) 911 = _; decide +kernel
theorem i_L_law_912 (X : Nat × (Nat → Int32)) : ins (ML_law X) 912 = some (.ireturn) := by show ins (ML_law (0, fun _ => 0)) 912 = _; decide +kernel
theorem i_L_law_913 (X : Nat × (Nat → Int32)) : ins (ML_law X) 913 = some (.aload_n 1) := by show ins (ML_law (0, fun _ => 0)) 913 = _; decide +kernel
theorem i_L_law_914 (X : Nat × (Nat → Int32)) : ins (ML_law X) 914 = some (.aload_n 0) := by show ins (ML_law (0, fun _ => 0)) 914 = _; decide +kernel
theorem i_L_law_915 (X : Nat × (Nat → Int32)) : ins (ML_law X) 915 = some (.iload_n 3) := by show ins (ML_law (0, fun _ => 0)) 915 = _; decide +kernel
theorem i_L_law_916 (X : Nat × (Nat → Int32)) : ins (ML_law X) 916 = some (.iconst 1) := by show ins (ML_law (0, fun _ => 0)) 916 = _; decide +kernel
theorem i_L_law_917 (X : Nat × (Nat → Int32)) : ins (ML_law X) 917 = some (.iadd) := by show ins (ML_law (0, fun _ => 0)) 917 = _; decide +kernel
theorem i_L_law_918 (X : Nat × (Nat → Int32)) : ins (ML_law X) 918 = some (.iaload) := by show ins (ML_law (0, fun _ => 0)) 918 = _; decide +kernel
theorem i_L_law_919 (X : Nat × (Nat → Int32)) : ins (ML_law X) 919 = some (.aload_n 0) := by show ins (ML_law (0, fun _ => 0)) 919 = _; decide +kernel
theorem i_L_law_920 (X : Nat × (Nat → Int32)) : ins (ML_law X) 920 = some (.iload_n 3) := by show ins (ML_law (0, fun _ => 0)) 920 = _; decide +kernel
theorem i_L_law_921 (X : Nat × (Nat → Int32)) : ins (ML_law X) 921 = some (.iconst 2) := by show ins (ML_law (0, fun _ => 0)) 921 = _; decide +kernel
theorem i_L_law_922 (X : Nat × (Nat → Int32)) : ins (ML_law X) 922 = some (.iadd) := by show ins (ML_law (0, fun _ => 0)) 922 = _; decide +kernel
theorem i_L_law_923 (X : Nat × (Nat → Int32)) : ins (ML_law X) 923 = some (.iaload) := by show ins (ML_law (0, fun _ => 0)) 923 = _; decide +kernel
theorem i_L_law_924 (X : Nat × (Nat → Int32)) : ins (ML_law X) 924 = some (.aload_n 0) := by show ins (ML_law (0, fun _ => 0)) 924 = _; decide +kernel
theorem i_L_law_925 (X : Nat × (Nat → Int32)) : ins (ML_law X) 925 = some (.iload_n 3) := by show ins (ML_law (0, fun _ => 0)) 925 = _; decide +kernel
theorem i_L_law_926 (X : Nat × (Nat → Int32)) : ins (ML_law X) 926 = some (.iconst 3) := by show ins (ML_law (0, fun _ => 0)) 926 = _; decide +kernel
theorem i_L_law_927 (X : Nat × (Nat → Int32)) : ins (ML_law X) 927 = some (.iadd) := by show ins (ML_law (0, fun _ => 0)) 927 = _; decide +kernel
theorem i_L_law_928 (X : Nat × (Nat → Int32)) : ins (ML_law X) 928 = some (.iaload) := by show ins (ML_law (0, fun _ => 0)) 928 = _; decide +kernel
theorem i_L_law_929 (X : Nat × (Nat → Int32)) : ins (ML_law X) 929 = some (.invokevirtual 106) := by show ins (ML_law (0, fun _ => 0)) 929 = _; decide +kernel
theorem i_L_law_932 (X : Nat × (Nat → Int32)) : ins (ML_law X) 932 = some (.aload_n 2) := by show ins (ML_law (0, fun _ => 0)) 932 = _; decide +kernel
theorem i_L_law_933 (X : Nat × (Nat → Int32)) : ins (ML_law X) 933 = some (.aload_n 0) := by show ins (ML_law (0, fun _ => 0)) 933 = _; decide +kernel
theorem i_L_law_934 (X : Nat × (Nat → Int32)) : ins (ML_law X) 934 = some (.iload_n 3) := by show ins (ML_law (0, fun _ => 0)) 934 = _; decide +kernel
theorem i_L_law_935 (X : Nat × (Nat → Int32)) : ins (ML_law X) 935 = some (.iconst 1) := by show ins (ML_law (0, fun _ => 0)) 935 = _; decide +kernel
theorem i_L_law_936 (X : Nat × (Nat → Int32)) : ins (ML_law X) 936 = some (.iadd) := by show ins (ML_law (0, fun _ => 0)) 936 = _; decide +kernel
theorem i_L_law_937 (X : Nat × (Nat → Int32)) : ins (ML_law X) 937 = some (.iaload) := by show ins (ML_law (0, fun _ => 0)) 937 = _; decide +kernel
theorem i_L_law_938 (X : Nat × (Nat → Int32)) : ins (ML_law X) 938 = some (.aload_n 0) := by show ins (ML_law (0, fun _ => 0)) 938 = _; decide +kernel
theorem i_L_law_939 (X : Nat × (Nat → Int32)) : ins (ML_law X) 939 = some (.iload_n 3) := by show ins (ML_law (0, fun _ => 0)) 939 = _; decide +kernel
theorem i_L_law_940 (X : Nat × (Nat → Int32)) : ins (ML_law X) 940 = some (.iconst 2) := by show ins (ML_law (0, fun _ => 0)) 940 = _; decide +kernel
theorem i_L_law_941 (X : Nat × (Nat → Int32)) : ins (ML_law X) 941 = some (.iadd) := by show ins (ML_law (0, fun _ => 0)) 941 = _; decide +kernel
theorem i_L_law_942 (X : Nat × (Nat → Int32)) : ins (ML_law X) 942 = some (.iaload) := by show ins (ML_law (0, fun _ => 0)) 942 = _; decide +kernel
theorem i_L_law_943 (X : Nat × (Nat → Int32)) : ins (ML_law X) 943 = some (.aload_n 0) := by show ins (ML_law (0, fun _ => 0)) 943 = _; decide +kernel
theorem i_L_law_944 (X : Nat × (Nat → Int32)) : ins (ML_law X) 944 = some (.iload_n 3) := by show ins (ML_law (0, fun _ => 0)) 944 = _; decide +kernel
theorem i_L_law_945 (X : Nat × (Nat → Int32)) : ins (ML_law X) 945 = some (.iconst 3) := by show ins (ML_law (0, fun _ => 0)) 945 = _; decide +kernel
theorem i_L_law_946 (X : Nat × (Nat → Int32)) : ins (ML_law X) 946 = some (.iadd) := by show ins (ML_law (0, fun _ => 0)) 946 = _; decide +kernel
theorem i_L_law_947 (X : Nat × (Nat → Int32)) : ins (ML_law X) 947 = some (.iaload) := by show ins (ML_law (0, fun _ => 0)) 947 = _; decide +kernel
theorem i_L_law_948 (X : Nat × (Nat → Int32)) : ins (ML_law X) 948 = some (.invokevirtual 109) := by show ins (ML_law (0, fun _ => 0)) 948 = _; decide +kernel
theorem i_L_law_951 (X : Nat × (Nat → Int32)) : ins (ML_law X) 951 = some (.if_icmp .eq 371) := by show ins (ML_law (0, fun _ => 0)) 951 = _; decide +kernel
theorem i_L_law_954 (X : Nat × (Nat → Int32)) : ins (ML_law X) 954 = some (.iconst 0) := by show ins (ML_law (0, fun _ => 0)) 954 = _; decide +kernel
theorem i_L_law_955 (X : Nat × (Nat → Int32)) : ins (ML_law X) 955 = some (.ireturn) := by show ins (ML_law (0, fun _ => 0)) 955 = _; decide +kernel
theorem i_L_law_956 (X : Nat × (Nat → Int32)) : ins (ML_law X) 956 = some (.aload_n 1) := by show ins (ML_law (0, fun _ => 0)) 956 = _; decide +kernel
theorem i_L_law_957 (X : Nat × (Nat → Int32)) : ins (ML_law X) 957 = some (.aload_n 0) := by show ins (ML_law (0, fun _ => 0)) 957 = _; decide +kernel
theorem i_L_law_958 (X : Nat × (Nat → Int32)) : ins (ML_law X) 958 = some (.iload_n 3) := by show ins (ML_law (0, fun _ => 0)) 958 = _; decide +kernel
theorem i_L_law_959 (X : Nat × (Nat → Int32)) : ins (ML_law X) 959 = some (.iconst 1) := by show ins (ML_law (0, fun _ => 0)) 959 = _; decide +kernel
theorem i_L_law_960 (X : Nat × (Nat → Int32)) : ins (ML_law X) 960 = some (.iadd) := by show ins (ML_law (0, fun _ => 0)) 960 = _; decide +kernel
theorem i_L_law_961 (X : Nat × (Nat → Int32)) : ins (ML_law X) 961 = some (.iaload) := by show ins (ML_law (0, fun _ => 0)) 961 = _; decide +kernel
theorem i_L_law_962 (X : Nat × (Nat → Int32)) : ins (ML_law X) 962 = some (.aload_n 0) := by show ins (ML_law (0, fun _ => 0)) 962 = _; decide +kernel
theorem i_L_law_963 (X : Nat × (Nat → Int32)) : ins (ML_law X) 963 = some (.iload_n 3) := by show ins (ML_law (0, fun _ => 0)) 963 = _; decide +kernel
theorem i_L_law_964 (X : Nat × (Nat → Int32)) : ins (ML_law X) 964 = some (.iconst 2) := by show ins (ML_law (0, fun _ => 0)) 964 = _; decide +kernel
theorem i_L_law_965 (X : Nat × (Nat → Int32)) : ins (ML_law X) 965 = some (.iadd) := by show ins (ML_law (0, fun _ => 0)) 965 = _; decide +kernel
theorem i_L_law_966 (X : Nat × (Nat → Int32)) : ins (ML_law X) 966 = some (.iaload) := by show ins (ML_law (0, fun _ => 0)) 966 = _; decide +kernel
theorem i_L_law_967 (X : Nat × (Nat → Int32)) : ins (ML_law X) 967 = some (.invokevirtual 110) := by show ins (ML_law (0, fun _ => 0)) 967 = _; decide +kernel
theorem i_L_law_970 (X : Nat × (Nat → Int32)) : ins (ML_law X) 970 = some (.aload_n 2) := by show ins (ML_law (0, fun _ => 0)) 970 = _; decide +kernel
theorem i_L_law_971 (X : Nat × (Nat → Int32)) : ins (ML_law X) 971 = some (.aload_n 0) := by show ins (ML_law (0, fun _ => 0)) 971 = _; decide +kernel
theorem i_L_law_972 (X : Nat × (Nat → Int32)) : ins (ML_law X) 972 = some (.iload_n 3) := by show ins (ML_law (0, fun _ => 0)) 972 = _; decide +kernel
theorem i_L_law_973 (X : Nat × (Nat → Int32)) : ins (ML_law X) 973 = some (.iconst 1) := by show ins (ML_law (0, fun _ => 0)) 973 = _; decide +kernel
theorem i_L_law_974 (X : Nat × (Nat → Int32)) : ins (ML_law X) 974 = some (.iadd) := by show ins (ML_law (0, fun _ => 0)) 974 = _; decide +kernel
theorem i_L_law_975 (X : Nat × (Nat → Int32)) : ins (ML_law X) 975 = some (.iaload) := by show ins (ML_law (0, fun _ => 0)) 975 = _; decide +kernel
theorem i_L_law_976 (X : Nat × (Nat → Int32)) : ins (ML_law X) 976 = some (.aload_n 0) := by show ins (ML_law (0, fun _ => 0)) 976 = _; decide +kernel
theorem i_L_law_977 (X : Nat × (Nat → Int32)) : ins (ML_law X) 977 = some (.iload_n 3) := by show ins (ML_law (0, fun _ => 0)) 977 = _; decide +kernel
theorem i_L_law_978 (X : Nat × (Nat → Int32)) : ins (ML_law X) 978 = some (.iconst 2) := by show ins (ML_law (0, fun _ => 0)) 978 = _; decide +kernel
theorem i_L_law_979 (X : Nat × (Nat → Int32)) : ins (ML_law X) 979 = some (.iadd) := by show ins (ML_law (0, fun _ => 0)) 979 = _; decide +kernel
theorem i_L_law_980 (X : Nat × (Nat → Int32)) : ins (ML_law X) 980 = some (.iaload) := by show ins (ML_law (0, fun _ => 0)) 980 = _; decide +kernel
theorem i_L_law_981 (X : Nat × (Nat → Int32)) : ins (ML_law X) 981 = some (.invokevirtual 113) := by show ins (ML_law (0, fun _ => 0)) 981 = _; decide +kernel
theorem i_L_law_984 (X : Nat × (Nat → Int32)) : ins (ML_law X) 984 = some (.if_icmp .eq 338) := by show ins (ML_law (0, fun _ => 0)) 984 = _; decide +kernel
theorem i_L_law_987 (X : Nat × (Nat → Int32)) : ins (ML_law X) 987 = some (.iconst 0) := by show ins (ML_law (0, fun _ => 0)) 987 = _; decide +kernel
theorem i_L_law_988 (X : Nat × (Nat → Int32)) : ins (ML_law X) 988 = some (.ireturn) := by show ins (ML_law (0, fun _ => 0)) 988 = _; decide +kernel
theorem i_L_law_989 (X : Nat × (Nat → Int32)) : ins (ML_law X) 989 = some (.aload_n 1) := by show ins (ML_law (0, fun _ => 0)) 989 = _; decide +kernel
theorem i_L_law_990 (X : Nat × (Nat → Int32)) : ins (ML_law X) 990 = some (.aload_n 0) := by show ins (ML_law (0, fun _ => 0)) 990 = _; decide +kernel
theorem i_L_law_991 (X : Nat × (Nat → Int32)) : ins (ML_law X) 991 = some (.iload_n 3) := by show ins (ML_law (0, fun _ => 0)) 991 = _; decide +kernel
theorem i_L_law_992 (X : Nat × (Nat → Int32)) : ins (ML_law X) 992 = some (.iconst 1) := by show ins (ML_law (0, fun _ => 0)) 992 = _; decide +kernel
theorem i_L_law_993 (X : Nat × (Nat → Int32)) : ins (ML_law X) 993 = some (.iadd) := by show ins (ML_law (0, fun _ => 0)) 993 = _; decide +kernel
theorem i_L_law_994 (X : Nat × (Nat → Int32)) : ins (ML_law X) 994 = some (.iaload) := by show ins (ML_law (0, fun _ => 0)) 994 = _; decide +kernel
theorem i_L_law_995 (X : Nat × (Nat → Int32)) : ins (ML_law X) 995 = some (.invokevirtual 114) := by show ins (ML_law (0, fun _ => 0)) 995 = _; decide +kernel
theorem i_L_law_998 (X : Nat × (Nat → Int32)) : ins (ML_law X) 998 = some (.aload_n 2) := by show ins (ML_law (0, fun _ => 0)) 998 = _; decide +kernel
theorem i_L_law_999 (X : Nat × (Nat → Int32)) : ins (ML_law X) 999 = some (.aload_n 0) := by show ins (ML_law (0, fun _ => 0)) 999 = _; decide +kernel
theorem i_L_law_1000 (X : Nat × (Nat → Int32)) : ins (ML_law X) 1000 = some (.iload_n 3) := by show ins (ML_law (0, fun _ => 0)) 1000 = _; decide +kernel
theorem i_L_law_1001 (X : Nat × (Nat → Int32)) : ins (ML_law X) 1001 = some (.iconst 1) := by show ins (ML_law (0, fun _ => 0)) 1001 = _; decide +kernel
theorem i_L_law_1002 (X : Nat × (Nat → Int32)) : ins (ML_law X) 1002 = some (.iadd) := by show ins (ML_law (0, fun _ => 0)) 1002 = _; decide +kernel
theorem i_L_law_1003 (X : Nat × (Nat → Int32)) : ins (ML_law X) 1003 = some (.iaload) := by show ins (ML_law (0, fun _ => 0)) 1003 = _; decide +kernel
theorem i_L_law_1004 (X : Nat × (Nat → Int32)) : ins (ML_law X) 1004 = some (.invokevirtual 117) := by show ins (ML_law (0, fun _ => 0)) 1004 = _; decide +kernel
theorem i_L_law_1007 (X : Nat × (Nat → Int32)) : ins (ML_law X) 1007 = some (.if_icmp .eq 315) := by show ins (ML_law (0, fun _ => 0)) 1007 = _; decide +kernel
theorem i_L_law_1010 (X : Nat × (Nat → Int32)) : ins (ML_law X) 1010 = some (.iconst 0) := by show ins (ML_law (0, fun _ => 0)) 1010 = _; decide +kernel
theorem i_L_law_1011 (X : Nat × (Nat → Int32)) : ins (ML_law X) 1011 = some (.ireturn) := by show ins (ML_law (0, fun _ => 0)) 1011 = _; decide +kernel
theorem i_L_law_1012 (X : Nat × (Nat → Int32)) : ins (ML_law X) 1012 = some (.aload_n 1) := by show ins (ML_law (0, fun _ => 0)) 1012 = _; decide +kernel
theorem i_L_law_1013 (X : Nat × (Nat → Int32)) : ins (ML_law X) 1013 = some (.aload_n 0) := by show ins (ML_law (0, fun _ => 0)) 1013 = _; decide +kernel
theorem i_L_law_1014 (X : Nat × (Nat → Int32)) : ins (ML_law X) 1014 = some (.iload_n 3) := by show ins (ML_law (0, fun _ => 0)) 1014 = _; decide +kernel
theorem i_L_law_1015 (X : Nat × (Nat → Int32)) : ins (ML_law X) 1015 = some (.iconst 1) := by show ins (ML_law (0, fun _ => 0)) 1015 = _; decide +kernel
theorem i_L_law_1016 (X : Nat × (Nat → Int32)) : ins (ML_law X) 1016 = some (.iadd) := by show ins (ML_law (0, fun _ => 0)) 1016 = _; decide +kernel
theorem i_L_law_1017 (X : Nat × (Nat → Int32)) : ins (ML_law X) 1017 = some (.iaload) := by show ins (ML_law (0, fun _ => 0)) 1017 = _; decide +kernel
theorem i_L_law_1018 (X : Nat × (Nat → Int32)) : ins (ML_law X) 1018 = some (.invokevirtual 118) := by show ins (ML_law (0, fun _ => 0)) 1018 = _; decide +kernel
theorem i_L_law_1021 (X : Nat × (Nat → Int32)) : ins (ML_law X) 1021 = some (.aload_n 2) := by show ins (ML_law (0, fun _ => 0)) 1021 = _; decide +kernel
theorem i_L_law_1022 (X : Nat × (Nat → Int32)) : ins (ML_law X) 1022 = some (.aload_n 0) := by show ins (ML_law (0, fun _ => 0)) 1022 = _; decide +kernel
theorem i_L_law_1023 (X : Nat × (Nat → Int32)) : ins (ML_law X) 1023 = some (.iload_n 3) := by show ins (ML_law (0, fun _ => 0)) 1023 = _; decide +kernel
theorem i_L_law_1024 (X : Nat × (Nat → Int32)) : ins (ML_law X) 1024 = some (.iconst 1) := by show ins (ML_law (0, fun _ => 0)) 1024 = _; decide +kernel
theorem i_L_law_1025 (X : Nat × (Nat → Int32)) : ins (ML_law X) 1025 = some (.iadd) := by show ins (ML_law (0, fun _ => 0)) 1025 = _; decide +kernel
theorem i_L_law_1026 (X : Nat × (Nat → Int32)) : ins (ML_law X) 1026 = some (.iaload) := by show ins (ML_law (0, fun _ => 0)) 1026 = _; decide +kernel
theorem i_L_law_1027 (X : Nat × (Nat → Int32)) : ins (ML_law X) 1027 = some (.invokevirtual 121) := by show ins (ML_law (0, fun _ => 0)) 1027 = _; decide +kernel
theorem i_L_law_1030 (X : Nat × (Nat → Int32)) : ins (ML_law X) 1030 = some (.lcmp) := by show ins (ML_law (0, fun _ => 0)) 1030 = _; decide +kernel
theorem i_L_law_1031 (X : Nat × (Nat → Int32)) : ins (ML_law X) 1031 = some (.ifCond .eq 291) := by show ins (ML_law (0, fun _ => 0)) 1031 = _; decide +kernel
theorem i_L_law_1034 (X : Nat × (Nat → Int32)) : ins (ML_law X) 1034 = some (.iconst 0) := by show ins (ML_law (0, fun _ => 0)) 1034 = _; decide +kernel
theorem i_L_law_1035 (X : Nat × (Nat → Int32)) : ins (ML_law X) 1035 = some (.ireturn) := by show ins (ML_law (0, fun _ => 0)) 1035 = _; decide +kernel
theorem i_L_law_1036 (X : Nat × (Nat → Int32)) : ins (ML_law X) 1036 = some (.aload_n 1) := by show ins (ML_law (0, fun _ => 0)) 1036 = _; decide +kernel
theorem i_L_law_1037 (X : Nat × (Nat → Int32)) : ins (ML_law X) 1037 = some (.aload_n 0) := by show ins (ML_law (0, fun _ => 0)) 1037 = _; decide +kernel
theorem i_L_law_1038 (X : Nat × (Nat → Int32)) : ins (ML_law X) 1038 = some (.iload_n 3) := by show ins (ML_law (0, fun _ => 0)) 1038 = _; decide +kernel
theorem i_L_law_1039 (X : Nat × (Nat → Int32)) : ins (ML_law X) 1039 = some (.iconst 1) := by show ins (ML_law (0, fun _ => 0)) 1039 = _; decide +kernel
theorem i_L_law_1040 (X : Nat × (Nat → Int32)) : ins (ML_law X) 1040 = some (.iadd) := by show ins (ML_law (0, fun _ => 0)) 1040 = _; decide +kernel
theorem i_L_law_1041 (X : Nat × (Nat → Int32)) : ins (ML_law X) 1041 = some (.iaload) := by show ins (ML_law (0, fun _ => 0)) 1041 = _; decide +kernel
theorem i_L_law_1042 (X : Nat × (Nat → Int32)) : ins (ML_law X) 1042 = some (.aload_n 0) := by show ins (ML_law (0, fun _ => 0)) 1042 = _; decide +kernel
theorem i_L_law_1043 (X : Nat × (Nat → Int32)) : ins (ML_law X) 1043 = some (.iload_n 3) := by show ins (ML_law (0, fun _ => 0)) 1043 = _; decide +kernel
theorem i_L_law_1044 (X : Nat × (Nat → Int32)) : ins (ML_law X) 1044 = some (.iconst 2) := by show ins (ML_law (0, fun _ => 0)) 1044 = _; decide +kernel
theorem i_L_law_1045 (X : Nat × (Nat → Int32)) : ins (ML_law X) 1045 = some (.iadd) := by show ins (ML_law (0, fun _ => 0)) 1045 = _; decide +kernel
theorem i_L_law_1046 (X : Nat × (Nat → Int32)) : ins (ML_law X) 1046 = some (.iaload) := by show ins (ML_law (0, fun _ => 0)) 1046 = _; decide +kernel
theorem i_L_law_1047 (X : Nat × (Nat → Int32)) : ins (ML_law X) 1047 = some (.aload_n 0) := by show ins (ML_law (0, fun _ => 0)) 1047 = _; decide +kernel
theorem i_L_law_1048 (X : Nat × (Nat → Int32)) : ins (ML_law X) 1048 = some (.iload_n 3) := by show ins (ML_law (0, fun _ => 0)) 1048 = _; decide +kernel
theorem i_L_law_1049 (X : Nat × (Nat → Int32)) : ins (ML_law X) 1049 = some (.iconst 3) := by show ins (ML_law (0, fun _ => 0)) 1049 = _; decide +kernel
theorem i_L_law_1050 (X : Nat × (Nat → Int32)) : ins (ML_law X) 1050 = some (.iadd) := by show ins (ML_law (0, fun _ => 0)) 1050 = _; decide +kernel
theorem i_L_law_1051 (X : Nat × (Nat → Int32)) : ins (ML_law X) 1051 = some (.iaload) := by show ins (ML_law (0, fun _ => 0)) 1051 = _; decide +kernel
theorem i_L_law_1052 (X : Nat × (Nat → Int32)) : ins (ML_law X) 1052 = some (.aload_n 0) := by show ins (ML_law (0, fun _ => 0)) 1052 = _; decide +kernel
theorem i_L_law_1053 (X : Nat × (Nat → Int32)) : ins (ML_law X) 1053 = some (.iload_n 3) := by show ins (ML_law (0, fun _ => 0)) 1053 = _; decide +kernel
theorem i_L_law_1054 (X : Nat × (Nat → Int32)) : ins (ML_law X) 1054 = some (.iconst 4) := by show ins (ML_law (0, fun _ => 0)) 1054 = _; decide +kernel
theorem i_L_law_1055 (X : Nat × (Nat → Int32)) : ins (ML_law X) 1055 = some (.iadd) := by show ins (ML_law (0, fun _ => 0)) 1055 = _; decide +kernel
theorem i_L_law_1056 (X : Nat × (Nat → Int32)) : ins (ML_law X) 1056 = some (.iaload) := by show ins (ML_law (0, fun _ => 0)) 1056 = _; decide +kernel
theorem i_L_law_1057 (X : Nat × (Nat → Int32)) : ins (ML_law X) 1057 = some (.ifCond .eq 7) := by show ins (ML_law (0, fun _ => 0)) 1057 = _; decide +kernel
theorem i_L_law_1060 (X : Nat × (Nat → Int32)) : ins (ML_law X) 1060 = some (.iconst 1) := by show ins (ML_law (0, fun _ => 0)) 1060 = _; decide +kernel
theorem i_L_law_1061 (X : Nat × (Nat → Int32)) : ins (ML_law X) 1061 = some (.goto 4) := by show ins (ML_law (0, fun _ => 0)) 1061 = _; decide +kernel
theorem i_L_law_1064 (X : Nat × (Nat → Int32)) : ins (ML_law X) 1064 = some (.iconst 0) := by show ins (ML_law (0, fun _ => 0)) 1064 = _; decide +kernel
theorem i_L_law_1065 (X : Nat × (Nat → Int32)) : ins (ML_law X) 1065 = some (.invokevirtual 122) := by show ins (ML_law (0, fun _ => 0)) 1065 = _; decide +kernel
theorem i_L_law_1068 (X : Nat × (Nat → Int32)) : ins (ML_law X) 1068 = some (.aload_n 2) := by show ins (ML_law (0, fun _ => 0)) 1068 = _; decide +kernel
theorem i_L_law_1069 (X : Nat × (Nat → Int32)) : ins (ML_law X) 1069 = some (.aload_n 0) := by show ins (ML_law (0, fun _ => 0)) 1069 = _; decide +kernel
theorem i_L_law_1070 (X : Nat × (Nat → Int32)) : ins (ML_law X) 1070 = some (.iload_n 3) := by show ins (ML_law (0, fun _ => 0)) 1070 = _; decide +kernel
theorem i_L_law_1071 (X : Nat × (Nat → Int32)) : ins (ML_law X) 1071 = some (.iconst 1) := by show ins (ML_law (0, fun _ => 0)) 1071 = _; decide +kernel
theorem i_L_law_1072 (X : Nat × (Nat → Int32)) : ins (ML_law X) 1072 = some (.iadd) := by show ins (ML_law (0, fun _ => 0)) 1072 = _; decide +kernel
theorem i_L_law_1073 (X : Nat × (Nat → Int32)) : ins (ML_law X) 1073 = some (.iaload) := by show ins (ML_law (0, fun _ => 0)) 1073 = _; decide +kernel
theorem i_L_law_1074 (X : Nat × (Nat → Int32)) : ins (ML_law X) 1074 = some (.aload_n 0) := by show ins (ML_law (0, fun _ => 0)) 1074 = _; decide +kernel
theorem i_L_law_1075 (X : Nat × (Nat → Int32)) : ins (ML_law X) 1075 = some (.iload_n 3) := by show ins (ML_law (0, fun _ => 0)) 1075 = _; decide +kernel
theorem i_L_law_1076 (X : Nat × (Nat → Int32)) : ins (ML_law X) 1076 = some (.iconst 2) := by show ins (ML_law (0, fun _ => 0)) 1076 = _; decide +kernel
theorem i_L_law_1077 (X : Nat × (Nat → Int32)) : ins (ML_law X) 1077 = some (.iadd) := by show ins (ML_law (0, fun _ => 0)) 1077 = _; decide +kernel
theorem i_L_law_1078 (X : Nat × (Nat → Int32)) : ins (ML_law X) 1078 = some (.iaload) := by show ins (ML_law (0, fun _ => 0)) 1078 = _; decide +kernel
theorem i_L_law_1079 (X : Nat × (Nat → Int32)) : ins (ML_law X) 1079 = some (.aload_n 0) := by show ins (ML_law (0, fun _ => 0)) 1079 = _; decide +kernel
theorem i_L_law_1080 (X : Nat × (Nat → Int32)) : ins (ML_law X) 1080 = some (.iload_n 3) := by show ins (ML_law (0, fun _ => 0)) 1080 = _; decide +kernel
theorem i_L_law_1081 (X : Nat × (Nat → Int32)) : ins (ML_law X) 1081 = some (.iconst 3) := by show ins (ML_law (0, fun _ => 0)) 1081 = _; decide +kernel
theorem i_L_law_1082 (X : Nat × (Nat → Int32)) : ins (ML_law X) 1082 = some (.iadd) := by show ins (ML_law (0, fun _ => 0)) 1082 = _; decide +kernel
theorem i_L_law_1083 (X : Nat × (Nat → Int32)) : ins (ML_law X) 1083 = some (.iaload) := by show ins (ML_law (0, fun _ => 0)) 1083 = _; decide +kernel
theorem i_L_law_1084 (X : Nat × (Nat → Int32)) : ins (ML_law X) 1084 = some (.aload_n 0) := by show ins (ML_law (0, fun _ => 0)) 1084 = _; decide +kernel
theorem i_L_law_1085 (X : Nat × (Nat → Int32)) : ins (ML_law X) 1085 = some (.iload_n 3) := by show ins (ML_law (0, fun _ => 0)) 1085 = _; decide +kernel
theorem i_L_law_1086 (X : Nat × (Nat → Int32)) : ins (ML_law X) 1086 = some (.iconst 4) := by show ins (ML_law (0, fun _ => 0)) 1086 = _; decide +kernel
theorem i_L_law_1087 (X : Nat × (Nat → Int32)) : ins (ML_law X) 1087 = some (.iadd) := by show ins (ML_law (0, fun _ => 0)) 1087 = _; decide +kernel
theorem i_L_law_1088 (X : Nat × (Nat → Int32)) : ins (ML_law X) 1088 = some (.iaload) := by show ins (ML_law (0, fun _ => 0)) 1088 = _; decide +kernel
theorem i_L_law_1089 (X : Nat × (Nat → Int32)) : ins (ML_law X) 1089 = some (.ifCond .eq 7) := by show ins (ML_law (0, fun _ => 0)) 1089 = _; decide +kernel
theorem i_L_law_1092 (X : Nat × (Nat → Int32)) : ins (ML_law X) 1092 = some (.iconst 1) := by show ins (ML_law (0, fun _ => 0)) 1092 = _; decide +kernel
theorem i_L_law_1093 (X : Nat × (Nat → Int32)) : ins (ML_law X) 1093 = some (.goto 4) := by show ins (ML_law (0, fun _ => 0)) 1093 = _; decide +kernel
theorem i_L_law_1096 (X : Nat × (Nat → Int32)) : ins (ML_law X) 1096 = some (.iconst 0) := by show ins (ML_law (0, fun _ => 0)) 1096 = _; decide +kernel
theorem i_L_law_1097 (X : Nat × (Nat → Int32)) : ins (ML_law X) 1097 = some (.invokevirtual 126) := by show ins (ML_law (0, fun _ => 0)) 1097 = _; decide +kernel
theorem i_L_law_1100 (X : Nat × (Nat → Int32)) : ins (ML_law X) 1100 = some (.if_icmp .eq 222) := by show ins (ML_law (0, fun _ => 0)) 1100 = _; decide +kernel
theorem i_L_law_1103 (X : Nat × (Nat → Int32)) : ins (ML_law X) 1103 = some (.iconst 0) := by show ins (ML_law (0, fun _ => 0)) 1103 = _; decide +kernel
theorem i_L_law_1104 (X : Nat × (Nat → Int32)) : ins (ML_law X) 1104 = some (.ireturn) := by show ins (ML_law (0, fun _ => 0)) 1104 = _; decide +kernel
theorem i_L_law_1105 (X : Nat × (Nat → Int32)) : ins (ML_law X) 1105 = some (.aload_n 1) := by show ins (ML_law (0, fun _ => 0)) 1105 = _; decide +kernel
theorem i_L_law_1106 (X : Nat × (Nat → Int32)) : ins (ML_law X) 1106 = some (.aload_n 0) := by show ins (ML_law (0, fun _ => 0)) 1106 = _; decide +kernel
theorem i_L_law_1107 (X : Nat × (Nat → Int32)) : ins (ML_law X) 1107 = some (.iload_n 3) := by show ins (ML_law (0, fun _ => 0)) 1107 = _; decide +kernel
theorem i_L_law_1108 (X : Nat × (Nat → Int32)) : ins (ML_law X) 1108 = some (.iconst 1) := by show ins (ML_law (0, fun _ => 0)) 1108 = _; decide +kernel
theorem i_L_law_1109 (X : Nat × (Nat → Int32)) : ins (ML_law X) 1109 = some (.iadd) := by show ins (ML_law (0, fun _ => 0)) 1109 = _; decide +kernel
theorem i_L_law_1110 (X : Nat × (Nat → Int32)) : ins (ML_law X) 1110 = some (.iaload) := by show ins (ML_law (0, fun _ => 0)) 1110 = _; decide +kernel
theorem i_L_law_1111 (X : Nat × (Nat → Int32)) : ins (ML_law X) 1111 = some (.aload_n 0) := by show ins (ML_law (0, fun _ => 0)) 1111 = _; decide +kernel
theorem i_L_law_1112 (X : Nat × (Nat → Int32)) : ins (ML_law X) 1112 = some (.iload_n 3) := by show ins (ML_law (0, fun _ => 0)) 1112 = _; decide +kernel
theorem i_L_law_1113 (X : Nat × (Nat → Int32)) : ins (ML_law X) 1113 = some (.iconst 2) := by show ins (ML_law (0, fun _ => 0)) 1113 = _; decide +kernel
theorem i_L_law_1114 (X : Nat × (Nat → Int32)) : ins (ML_law X) 1114 = some (.iadd) := by show ins (ML_law (0, fun _ => 0)) 1114 = _; decide +kernel
theorem i_L_law_1115 (X : Nat × (Nat → Int32)) : ins (ML_law X) 1115 = some (.iaload) := by show ins (ML_law (0, fun _ => 0)) 1115 = _; decide +kernel
theorem i_L_law_1116 (X : Nat × (Nat → Int32)) : ins (ML_law X) 1116 = some (.ifCond .eq 7) := by show ins (ML_law (0, fun _ => 0)) 1116 = _; decide +kernel
theorem i_L_law_1119 (X : Nat × (Nat → Int32)) : ins (ML_law X) 1119 = some (.iconst 1) := by show ins (ML_law (0, fun _ => 0)) 1119 = _; decide +kernel
theorem i_L_law_1120 (X : Nat × (Nat → Int32)) : ins (ML_law X) 1120 = some (.goto 4) := by show ins (ML_law (0, fun _ => 0)) 1120 = _; decide +kernel
theorem i_L_law_1123 (X : Nat × (Nat → Int32)) : ins (ML_law X) 1123 = some (.iconst 0) := by show ins (ML_law (0, fun _ => 0)) 1123 = _; decide +kernel
theorem i_L_law_1124 (X : Nat × (Nat → Int32)) : ins (ML_law X) 1124 = some (.invokevirtual 127) := by show ins (ML_law (0, fun _ => 0)) 1124 = _; decide +kernel
theorem i_L_law_1127 (X : Nat × (Nat → Int32)) : ins (ML_law X) 1127 = some (.aload_n 2) := by show ins (ML_law (0, fun _ => 0)) 1127 = _; decide +kernel
theorem i_L_law_1128 (X : Nat × (Nat → Int32)) : ins (ML_law X) 1128 = some (.aload_n 0) := by show ins (ML_law (0, fun _ => 0)) 1128 = _; decide +kernel
theorem i_L_law_1129 (X : Nat × (Nat → Int32)) : ins (ML_law X) 1129 = some (.iload_n 3) := by show ins (ML_law (0, fun _ => 0)) 1129 = _; decide +kernel
theorem i_L_law_1130 (X : Nat × (Nat → Int32)) : ins (ML_law X) 1130 = some (.iconst 1) := by show ins (ML_law (0, fun _ => 0)) 1130 = _; decide +kernel
theorem i_L_law_1131 (X : Nat × (Nat → Int32)) : ins (ML_law X) 1131 = some (.iadd) := by show ins (ML_law (0, fun _ => 0)) 1131 = _; decide +kernel
theorem i_L_law_1132 (X : Nat × (Nat → Int32)) : ins (ML_law X) 1132 = some (.iaload) := by show ins (ML_law (0, fun _ => 0)) 1132 = _; decide +kernel
theorem i_L_law_1133 (X : Nat × (Nat → Int32)) : ins (ML_law X) 1133 = some (.aload_n 0) := by show ins (ML_law (0, fun _ => 0)) 1133 = _; decide +kernel
theorem i_L_law_1134 (X : Nat × (Nat → Int32)) : ins (ML_law X) 1134 = some (.iload_n 3) := by show ins (ML_law (0, fun _ => 0)) 1134 = _; decide +kernel
theorem i_L_law_1135 (X : Nat × (Nat → Int32)) : ins (ML_law X) 1135 = some (.iconst 2) := by show ins (ML_law (0, fun _ => 0)) 1135 = _; decide +kernel
theorem i_L_law_1136 (X : Nat × (Nat → Int32)) : ins (ML_law X) 1136 = some (.iadd) := by show ins (ML_law (0, fun _ => 0)) 1136 = _; decide +kernel
theorem i_L_law_1137 (X : Nat × (Nat → Int32)) : ins (ML_law X) 1137 = some (.iaload) := by show ins (ML_law (0, fun _ => 0)) 1137 = _; decide +kernel
theorem i_L_law_1138 (X : Nat × (Nat → Int32)) : ins (ML_law X) 1138 = some (.ifCond .eq 7) := by show ins (ML_law (0, fun _ => 0)) 1138 = _; decide +kernel
theorem i_L_law_1141 (X : Nat × (Nat → Int32)) : ins (ML_law X) 1141 = some (.iconst 1) := by show ins (ML_law (0, fun _ => 0)) 1141 = _; decide +kernel
theorem i_L_law_1142 (X : Nat × (Nat → Int32)) : ins (ML_law X) 1142 = some (.goto 4) := by show ins (ML_law (0, fun _ => 0)) 1142 = _; decide +kernel
theorem i_L_law_1145 (X : Nat × (Nat → Int32)) : ins (ML_law X) 1145 = some (.iconst 0) := by show ins (ML_law (0, fun _ => 0)) 1145 = _; decide +kernel
theorem i_L_law_1146 (X : Nat × (Nat → Int32)) : ins (ML_law X) 1146 = some (.invokevirtual 131) := by show ins (ML_law (0, fun _ => 0)) 1146 = _; decide +kernel
theorem i_L_law_1149 (X : Nat × (Nat → Int32)) : ins (ML_law X) 1149 = some (.if_icmp .eq 173) := by show ins (ML_law (0, fun _ => 0)) 1149 = _; decide +kernel
theorem i_L_law_1152 (X : Nat × (Nat → Int32)) : ins (ML_law X) 1152 = some (.iconst 0) := by show ins (ML_law (0, fun _ => 0)) 1152 = _; decide +kernel
theorem i_L_law_1153 (X : Nat × (Nat → Int32)) : ins (ML_law X) 1153 = some (.ireturn) := by show ins (ML_law (0, fun _ => 0)) 1153 = _; decide +kernel
theorem i_L_law_1154 (X : Nat × (Nat → Int32)) : ins (ML_law X) 1154 = some (.aload_n 1) := by show ins (ML_law (0, fun _ => 0)) 1154 = _; decide +kernel
theorem i_L_law_1155 (X : Nat × (Nat → Int32)) : ins (ML_law X) 1155 = some (.aload_n 0) := by show ins (ML_law (0, fun _ => 0)) 1155 = _; decide +kernel
theorem i_L_law_1156 (X : Nat × (Nat → Int32)) : ins (ML_law X) 1156 = some (.iload_n 3) := by show ins (ML_law (0, fun _ => 0)) 1156 = _; decide +kernel
theorem i_L_law_1157 (X : Nat × (Nat → Int32)) : ins (ML_law X) 1157 = some (.iconst 1) := by show ins (ML_law (0, fun _ => 0)) 1157 = _; decide +kernel
theorem i_L_law_1158 (X : Nat × (Nat → Int32)) : ins (ML_law X) 1158 = some (.iadd) := by show ins (ML_law (0, fun _ => 0)) 1158 = _; decide +kernel
theorem i_L_law_1159 (X : Nat × (Nat → Int32)) : ins (ML_law X) 1159 = some (.iaload) := by show ins (ML_law (0, fun _ => 0)) 1159 = _; decide +kernel
theorem i_L_law_1160 (X : Nat × (Nat → Int32)) : ins (ML_law X) 1160 = some (.aload_n 0) := by show ins (ML_law (0, fun _ => 0)) 1160 = _; decide +kernel
theorem i_L_law_1161 (X : Nat × (Nat → Int32)) : ins (ML_law X) 1161 = some (.iload_n 3) := by show ins (ML_law (0, fun _ => 0)) 1161 = _; decide +kernel
theorem i_L_law_1162 (X : Nat × (Nat → Int32)) : ins (ML_law X) 1162 = some (.iconst 2) := by show ins (ML_law (0, fun _ => 0)) 1162 = _; decide +kernel
theorem i_L_law_1163 (X : Nat × (Nat → Int32)) : ins (ML_law X) 1163 = some (.iadd) := by show ins (ML_law (0, fun _ => 0)) 1163 = _; decide +kernel
theorem i_L_law_1164 (X : Nat × (Nat → Int32)) : ins (ML_law X) 1164 = some (.iaload) := by show ins (ML_law (0, fun _ => 0)) 1164 = _; decide +kernel
theorem i_L_law_1165 (X : Nat × (Nat → Int32)) : ins (ML_law X) 1165 = some (.ifCond .eq 7) := by show ins (ML_law (0, fun _ => 0)) 1165 = _; decide +kernel
theorem i_L_law_1168 (X : Nat × (Nat → Int32)) : ins (ML_law X) 1168 = some (.iconst 1) := by show ins (ML_law (0, fun _ => 0)) 1168 = _; decide +kernel
theorem i_L_law_1169 (X : Nat × (Nat → Int32)) : ins (ML_law X) 1169 = some (.goto 4) := by show ins (ML_law (0, fun _ => 0)) 1169 = _; decide +kernel
theorem i_L_law_1172 (X : Nat × (Nat → Int32)) : ins (ML_law X) 1172 = some (.iconst 0) := by show ins (ML_law (0, fun _ => 0)) 1172 = _; decide +kernel
theorem i_L_law_1173 (X : Nat × (Nat → Int32)) : ins (ML_law X) 1173 = some (.aload_n 0) := by show ins (ML_law (0, fun _ => 0)) 1173 = _; decide +kernel
theorem i_L_law_1174 (X : Nat × (Nat → Int32)) : ins (ML_law X) 1174 = some (.iload_n 3) := by show ins (ML_law (0, fun _ => 0)) 1174 = _; decide +kernel
theorem i_L_law_1175 (X : Nat × (Nat → Int32)) : ins (ML_law X) 1175 = some (.iconst 3) := by show ins (ML_law (0, fun _ => 0)) 1175 = _; decide +kernel
theorem i_L_law_1176 (X : Nat × (Nat → Int32)) : ins (ML_law X) 1176 = some (.iadd) := by show ins (ML_law (0, fun _ => 0)) 1176 = _; decide +kernel
theorem i_L_law_1177 (X : Nat × (Nat → Int32)) : ins (ML_law X) 1177 = some (.iaload) := by show ins (ML_law (0, fun _ => 0)) 1177 = _; decide +kernel
theorem i_L_law_1178 (X : Nat × (Nat → Int32)) : ins (ML_law X) 1178 = some (.invokevirtual 132) := by show ins (ML_law (0, fun _ => 0)) 1178 = _; decide +kernel
theorem i_L_law_1181 (X : Nat × (Nat → Int32)) : ins (ML_law X) 1181 = some (.aload_n 2) := by show ins (ML_law (0, fun _ => 0)) 1181 = _; decide +kernel
theorem i_L_law_1182 (X : Nat × (Nat → Int32)) : ins (ML_law X) 1182 = some (.aload_n 0) := by show ins (ML_law (0, fun _ => 0)) 1182 = _; decide +kernel
theorem i_L_law_1183 (X : Nat × (Nat → Int32)) : ins (ML_law X) 1183 = some (.iload_n 3) := by show ins (ML_law (0, fun _ => 0)) 1183 = _; decide +kernel
theorem i_L_law_1184 (X : Nat × (Nat → Int32)) : ins (ML_law X) 1184 = some (.iconst 1) := by show ins (ML_law (0, fun _ => 0)) 1184 = _; decide +kernel
theorem i_L_law_1185 (X : Nat × (Nat → Int32)) : ins (ML_law X) 1185 = some (.iadd) := by show ins (ML_law (0, fun _ => 0)) 1185 = _; decide +kernel
theorem i_L_law_1186 (X : Nat × (Nat → Int32)) : ins (ML_law X) 1186 = some (.iaload) := by show ins (ML_law (0, fun _ => 0)) 1186 = _; decide +kernel
theorem i_L_law_1187 (X : Nat × (Nat → Int32)) : ins (ML_law X) 1187 = some (.aload_n 0) := by show ins (ML_law (0, fun _ => 0)) 1187 = _; decide +kernel
theorem i_L_law_1188 (X : Nat × (Nat → Int32)) : ins (ML_law X) 1188 = some (.iload_n 3) := by show ins (ML_law (0, fun _ => 0)) 1188 = _; decide +kernel
theorem i_L_law_1189 (X : Nat × (Nat → Int32)) : ins (ML_law X) 1189 = some (.iconst 2) := by show ins (ML_law (0, fun _ => 0)) 1189 = _; decide +kernel
theorem i_L_law_1190 (X : Nat × (Nat → Int32)) : ins (ML_law X) 1190 = some (.iadd) := by show ins (ML_law (0, fun _ => 0)) 1190 = _; decide +kernel
theorem i_L_law_1191 (X : Nat × (Nat → Int32)) : ins (ML_law X) 1191 = some (.iaload) := by show ins (ML_law (0, fun _ => 0)) 1191 = _; decide +kernel
theorem i_L_law_1192 (X : Nat × (Nat → Int32)) : ins (ML_law X) 1192 = some (.ifCond .eq 7) := by show ins (ML_law (0, fun _ => 0)) 1192 = _; decide +kernel
theorem i_L_law_1195 (X : Nat × (Nat → Int32)) : ins (ML_law X) 1195 = some (.iconst 1) := by show ins (ML_law (0, fun _ => 0)) 1195 = _; decide +kernel
theorem i_L_law_1196 (X : Nat × (Nat → Int32)) : ins (ML_law X) 1196 = some (.goto 4) := by show ins (ML_law (0, fun _ => 0)) 1196 = _; decide +kernel
theorem i_L_law_1199 (X : Nat × (Nat → Int32)) : ins (ML_law X) 1199 = some (.iconst 0) := by show ins (ML_law (0, fun _ => 0)) 1199 = _; decide +kernel
theorem i_L_law_1200 (X : Nat × (Nat → Int32)) : ins (ML_law X) 1200 = some (.aload_n 0) := by show ins (ML_law (0, fun _ => 0)) 1200 = _; decide +kernel
theorem i_L_law_1201 (X : Nat × (Nat → Int32)) : ins (ML_law X) 1201 = some (.iload_n 3) := by show ins (ML_law (0, fun _ => 0)) 1201 = _; decide +kernel
theorem i_L_law_1202 (X : Nat × (Nat → Int32)) : ins (ML_law X) 1202 = some (.iconst 3) := by show ins (ML_law (0, fun _ => 0)) 1202 = _; decide +kernel
theorem i_L_law_1203 (X : Nat × (Nat → Int32)) : ins (ML_law X) 1203 = some (.iadd) := by show ins (ML_law (0, fun _ => 0)) 1203 = _; decide +kernel
theorem i_L_law_1204 (X : Nat × (Nat → Int32)) : ins (ML_law X) 1204 = some (.iaload) := by show ins (ML_law (0, fun _ => 0)) 1204 = _; decide +kernel
theorem i_L_law_1205 (X : Nat × (Nat → Int32)) : ins (ML_law X) 1205 = some (.invokevirtual 136) := by show ins (ML_law (0, fun _ => 0)) 1205 = _; decide +kernel
theorem i_L_law_1208 (X : Nat × (Nat → Int32)) : ins (ML_law X) 1208 = some (.if_icmp .eq 114) := by show ins (ML_law (0, fun _ => 0)) 1208 = _; decide +kernel
theorem i_L_law_1211 (X : Nat × (Nat → Int32)) : ins (ML_law X) 1211 = some (.iconst 0) := by show ins (ML_law (0, fun _ => 0)) 1211 = _; decide +kernel
theorem i_L_law_1212 (X : Nat × (Nat → Int32)) : ins (ML_law X) 1212 = some (.ireturn) := by show ins (ML_law (0, fun _ => 0)) 1212 = _; decide +kernel
theorem i_L_law_1213 (X : Nat × (Nat → Int32)) : ins (ML_law X) 1213 = some (.aload_n 1) := by show ins (ML_law (0, fun _ => 0)) 1213 = _; decide +kernel
theorem i_L_law_1214 (X : Nat × (Nat → Int32)) : ins (ML_law X) 1214 = some (.aload_n 0) := by show ins (ML_law (0, fun _ => 0)) 1214 = _; decide +kernel
theorem i_L_law_1215 (X : Nat × (Nat → Int32)) : ins (ML_law X) 1215 = some (.iload_n 3) := by show ins (ML_law (0, fun _ => 0)) 1215 = _; decide +kernel
theorem i_L_law_1216 (X : Nat × (Nat → Int32)) : ins (ML_law X) 1216 = some (.iconst 1) := by show ins (ML_law (0, fun _ => 0)) 1216 = _; decide +kernel
theorem i_L_law_1217 (X : Nat × (Nat → Int32)) : ins (ML_law X) 1217 = some (.iadd) := by show ins (ML_law (0, fun _ => 0)) 1217 = _; decide +kernel
theorem i_L_law_1218 (X : Nat × (Nat → Int32)) : ins (ML_law X) 1218 = some (.iaload) := by show ins (ML_law (0, fun _ => 0)) 1218 = _; decide +kernel
theorem i_L_law_1219 (X : Nat × (Nat → Int32)) : ins (ML_law X) 1219 = some (.invokevirtual 137) := by show ins (ML_law (0, fun _ => 0)) 1219 = _; decide +kernel
theorem i_L_law_1222 (X : Nat × (Nat → Int32)) : ins (ML_law X) 1222 = some (.aload_n 2) := by show ins (ML_law (0, fun _ => 0)) 1222 = _; decide +kernel
theorem i_L_law_1223 (X : Nat × (Nat → Int32)) : ins (ML_law X) 1223 = some (.aload_n 0) := by show ins (ML_law (0, fun _ => 0)) 1223 = _; decide +kernel
theorem i_L_law_1224 (X : Nat × (Nat → Int32)) : ins (ML_law X) 1224 = some (.iload_n 3) := by show ins (ML_law (0, fun _ => 0)) 1224 = _; decide +kernel
theorem i_L_law_1225 (X : Nat × (Nat → Int32)) : ins (ML_law X) 1225 = some (.iconst 1) := by show ins (ML_law (0, fun _ => 0)) 1225 = _; decide +kernel
theorem i_L_law_1226 (X : Nat × (Nat → Int32)) : ins (ML_law X) 1226 = some (.iadd) := by show ins (ML_law (0, fun _ => 0)) 1226 = _; decide +kernel
theorem i_L_law_1227 (X : Nat × (Nat → Int32)) : ins (ML_law X) 1227 = some (.iaload) := by show ins (ML_law (0, fun _ => 0)) 1227 = _; decide +kernel
theorem i_L_law_1228 (X : Nat × (Nat → Int32)) : ins (ML_law X) 1228 = some (.invokevirtual 140) := by show ins (ML_law (0, fun _ => 0)) 1228 = _; decide +kernel
theorem i_L_law_1231 (X : Nat × (Nat → Int32)) : ins (ML_law X) 1231 = some (.if_icmp .eq 91) := by show ins (ML_law (0, fun _ => 0)) 1231 = _; decide +kernel
theorem i_L_law_1234 (X : Nat × (Nat → Int32)) : ins (ML_law X) 1234 = some (.iconst 0) := by show ins (ML_law (0, fun _ => 0)) 1234 = _; decide +kernel
theorem i_L_law_1235 (X : Nat × (Nat → Int32)) : ins (ML_law X) 1235 = some (.ireturn) := by show ins (ML_law (0, fun _ => 0)) 1235 = _; decide +kernel
theorem i_L_law_1236 (X : Nat × (Nat → Int32)) : ins (ML_law X) 1236 = some (.aload_n 1) := by show ins (ML_law (0, fun _ => 0)) 1236 = _; decide +kernel
theorem i_L_law_1237 (X : Nat × (Nat → Int32)) : ins (ML_law X) 1237 = some (.invokevirtual 141) := by show ins (ML_law (0, fun _ => 0)) 1237 = _; decide +kernel
theorem i_L_law_1240 (X : Nat × (Nat → Int32)) : ins (ML_law X) 1240 = some (.aload_n 2) := by show ins (ML_law (0, fun _ => 0)) 1240 = _; decide +kernel
theorem i_L_law_1241 (X : Nat × (Nat → Int32)) : ins (ML_law X) 1241 = some (.invokevirtual 144) := by show ins (ML_law (0, fun _ => 0)) 1241 = _; decide +kernel
theorem i_L_law_1244 (X : Nat × (Nat → Int32)) : ins (ML_law X) 1244 = some (.if_icmp .eq 78) := by show ins (ML_law (0, fun _ => 0)) 1244 = _; decide +kernel
theorem i_L_law_1247 (X : Nat × (Nat → Int32)) : ins (ML_law X) 1247 = some (.iconst 0) := by show ins (ML_law (0, fun _ => 0)) 1247 = _; decide +kernel
theorem i_L_law_1248 (X : Nat × (Nat → Int32)) : ins (ML_law X) 1248 = some (.ireturn) := by show ins (ML_law (0, fun _ => 0)) 1248 = _; decide +kernel
theorem i_L_law_1249 (X : Nat × (Nat → Int32)) : ins (ML_law X) 1249 = some (.aload_n 1) := by show ins (ML_law (0, fun _ => 0)) 1249 = _; decide +kernel
theorem i_L_law_1250 (X : Nat × (Nat → Int32)) : ins (ML_law X) 1250 = some (.invokevirtual 145) := by show ins (ML_law (0, fun _ => 0)) 1250 = _; decide +kernel
theorem i_L_law_1253 (X : Nat × (Nat → Int32)) : ins (ML_law X) 1253 = some (.aload_n 2) := by show ins (ML_law (0, fun _ => 0)) 1253 = _; decide +kernel
theorem i_L_law_1254 (X : Nat × (Nat → Int32)) : ins (ML_law X) 1254 = some (.invokevirtual 148) := by show ins (ML_law (0, fun _ => 0)) 1254 = _; decide +kernel
theorem i_L_law_1257 (X : Nat × (Nat → Int32)) : ins (ML_law X) 1257 = some (.if_icmp .eq 65) := by show ins (ML_law (0, fun _ => 0)) 1257 = _; decide +kernel
theorem i_L_law_1260 (X : Nat × (Nat → Int32)) : ins (ML_law X) 1260 = some (.iconst 0) := by show ins (ML_law (0, fun _ => 0)) 1260 = _; decide +kernel
theorem i_L_law_1261 (X : Nat × (Nat → Int32)) : ins (ML_law X) 1261 = some (.ireturn) := by show ins (ML_law (0, fun _ => 0)) 1261 = _; decide +kernel
theorem i_L_law_1262 (X : Nat × (Nat → Int32)) : ins (ML_law X) 1262 = some (.aload_n 1) := by show ins (ML_law (0, fun _ => 0)) 1262 = _; decide +kernel
theorem i_L_law_1263 (X : Nat × (Nat → Int32)) : ins (ML_law X) 1263 = some (.aload_n 0) := by show ins (ML_law (0, fun _ => 0)) 1263 = _; decide +kernel
theorem i_L_law_1264 (X : Nat × (Nat → Int32)) : ins (ML_law X) 1264 = some (.iload_n 3) := by show ins (ML_law (0, fun _ => 0)) 1264 = _; decide +kernel
theorem i_L_law_1265 (X : Nat × (Nat → Int32)) : ins (ML_law X) 1265 = some (.iconst 1) := by show ins (ML_law (0, fun _ => 0)) 1265 = _; decide +kernel
theorem i_L_law_1266 (X : Nat × (Nat → Int32)) : ins (ML_law X) 1266 = some (.iadd) := by show ins (ML_law (0, fun _ => 0)) 1266 = _; decide +kernel
theorem i_L_law_1267 (X : Nat × (Nat → Int32)) : ins (ML_law X) 1267 = some (.iaload) := by show ins (ML_law (0, fun _ => 0)) 1267 = _; decide +kernel
theorem i_L_law_1268 (X : Nat × (Nat → Int32)) : ins (ML_law X) 1268 = some (.invokevirtual 149) := by show ins (ML_law (0, fun _ => 0)) 1268 = _; decide +kernel
theorem i_L_law_1271 (X : Nat × (Nat → Int32)) : ins (ML_law X) 1271 = some (.aload_n 2) := by show ins (ML_law (0, fun _ => 0)) 1271 = _; decide +kernel
theorem i_L_law_1272 (X : Nat × (Nat → Int32)) : ins (ML_law X) 1272 = some (.aload_n 0) := by show ins (ML_law (0, fun _ => 0)) 1272 = _; decide +kernel
theorem i_L_law_1273 (X : Nat × (Nat → Int32)) : ins (ML_law X) 1273 = some (.iload_n 3) := by show ins (ML_law (0, fun _ => 0)) 1273 = _; decide +kernel
theorem i_L_law_1274 (X : Nat × (Nat → Int32)) : ins (ML_law X) 1274 = some (.iconst 1) := by show ins (ML_law (0, fun _ => 0)) 1274 = _; decide +kernel
theorem i_L_law_1275 (X : Nat × (Nat → Int32)) : ins (ML_law X) 1275 = some (.iadd) := by show ins (ML_law (0, fun _ => 0)) 1275 = _; decide +kernel
theorem i_L_law_1276 (X : Nat × (Nat → Int32)) : ins (ML_law X) 1276 = some (.iaload) := by show ins (ML_law (0, fun _ => 0)) 1276 = _; decide +kernel
theorem i_L_law_1277 (X : Nat × (Nat → Int32)) : ins (ML_law X) 1277 = some (.invokevirtual 152) := by show ins (ML_law (0, fun _ => 0)) 1277 = _; decide +kernel
theorem i_L_law_1280 (X : Nat × (Nat → Int32)) : ins (ML_law X) 1280 = some (.if_icmp .eq 42) := by show ins (ML_law (0, fun _ => 0)) 1280 = _; decide +kernel
theorem i_L_law_1283 (X : Nat × (Nat → Int32)) : ins (ML_law X) 1283 = some (.iconst 0) := by show ins (ML_law (0, fun _ => 0)) 1283 = _; decide +kernel
theorem i_L_law_1284 (X : Nat × (Nat → Int32)) : ins (ML_law X) 1284 = some (.ireturn) := by show ins (ML_law (0, fun _ => 0)) 1284 = _; decide +kernel
theorem i_L_law_1285 (X : Nat × (Nat → Int32)) : ins (ML_law X) 1285 = some (.aload_n 1) := by show ins (ML_law (0, fun _ => 0)) 1285 = _; decide +kernel
theorem i_L_law_1286 (X : Nat × (Nat → Int32)) : ins (ML_law X) 1286 = some (.aload_n 0) := by show ins (ML_law (0, fun _ => 0)) 1286 = _; decide +kernel
theorem i_L_law_1287 (X : Nat × (Nat → Int32)) : ins (ML_law X) 1287 = some (.iload_n 3) := by show ins (ML_law (0, fun _ => 0)) 1287 = _; decide +kernel
theorem i_L_law_1288 (X : Nat × (Nat → Int32)) : ins (ML_law X) 1288 = some (.iconst 1) := by show ins (ML_law (0, fun _ => 0)) 1288 = _; decide +kernel
theorem i_L_law_1289 (X : Nat × (Nat → Int32)) : ins (ML_law X) 1289 = some (.iadd) := by show ins (ML_law (0, fun _ => 0)) 1289 = _; decide +kernel
theorem i_L_law_1290 (X : Nat × (Nat → Int32)) : ins (ML_law X) 1290 = some (.iaload) := by show ins (ML_law (0, fun _ => 0)) 1290 = _; decide +kernel
theorem i_L_law_1291 (X : Nat × (Nat → Int32)) : ins (ML_law X) 1291 = some (.invokevirtual 153) := by show ins (ML_law (0, fun _ => 0)) 1291 = _; decide +kernel
theorem i_L_law_1294 (X : Nat × (Nat → Int32)) : ins (ML_law X) 1294 = some (.aload_n 2) := by show ins (ML_law (0, fun _ => 0)) 1294 = _; decide +kernel
theorem i_L_law_1295 (X : Nat × (Nat → Int32)) : ins (ML_law X) 1295 = some (.aload_n 0) := by show ins (ML_law (0, fun _ => 0)) 1295 = _; decide +kernel
theorem i_L_law_1296 (X : Nat × (Nat → Int32)) : ins (ML_law X) 1296 = some (.iload_n 3) := by show ins (ML_law (0, fun _ => 0)) 1296 = _; decide +kernel
theorem i_L_law_1297 (X : Nat × (Nat → Int32)) : ins (ML_law X) 1297 = some (.iconst 1) := by show ins (ML_law (0, fun _ => 0)) 1297 = _; decide +kernel
theorem i_L_law_1298 (X : Nat × (Nat → Int32)) : ins (ML_law X) 1298 = some (.iadd) := by show ins (ML_law (0, fun _ => 0)) 1298 = _; decide +kernel
theorem i_L_law_1299 (X : Nat × (Nat → Int32)) : ins (ML_law X) 1299 = some (.iaload) := by show ins (ML_law (0, fun _ => 0)) 1299 = _; decide +kernel
theorem i_L_law_1300 (X : Nat × (Nat → Int32)) : ins (ML_law X) 1300 = some (.invokevirtual 156) := by show ins (ML_law (0, fun _ => 0)) 1300 = _; decide +kernel
theorem i_L_law_1303 (X : Nat × (Nat → Int32)) : ins (ML_law X) 1303 = some (.if_icmp .eq 19) := by show ins (ML_law (0, fun _ => 0)) 1303 = _; decide +kernel
theorem i_L_law_1306 (X : Nat × (Nat → Int32)) : ins (ML_law X) 1306 = some (.iconst 0) := by show ins (ML_law (0, fun _ => 0)) 1306 = _; decide +kernel
theorem i_L_law_1307 (X : Nat × (Nat → Int32)) : ins (ML_law X) 1307 = some (.ireturn) := by show ins (ML_law (0, fun _ => 0)) 1307 = _; decide +kernel
theorem i_L_law_1308 (X : Nat × (Nat → Int32)) : ins (ML_law X) 1308 = some (.aload_n 1) := by show ins (ML_law (0, fun _ => 0)) 1308 = _; decide +kernel
theorem i_L_law_1309 (X : Nat × (Nat → Int32)) : ins (ML_law X) 1309 = some (.invokevirtual 157) := by show ins (ML_law (0, fun _ => 0)) 1309 = _; decide +kernel
theorem i_L_law_1312 (X : Nat × (Nat → Int32)) : ins (ML_law X) 1312 = some (.aload_n 2) := by show ins (ML_law (0, fun _ => 0)) 1312 = _; decide +kernel
theorem i_L_law_1313 (X : Nat × (Nat → Int32)) : ins (ML_law X) 1313 = some (.invokevirtual 161) := by show ins (ML_law (0, fun _ => 0)) 1313 = _; decide +kernel
theorem i_L_law_1316 (X : Nat × (Nat → Int32)) : ins (ML_law X) 1316 = some (.lcmp) := by show ins (ML_law (0, fun _ => 0)) 1316 = _; decide +kernel
theorem i_L_law_1317 (X : Nat × (Nat → Int32)) : ins (ML_law X) 1317 = some (.ifCond .eq 5) := by show ins (ML_law (0, fun _ => 0)) 1317 = _; decide +kernel
theorem i_L_law_1320 (X : Nat × (Nat → Int32)) : ins (ML_law X) 1320 = some (.iconst 0) := by show ins (ML_law (0, fun _ => 0)) 1320 = _; decide +kernel
theorem i_L_law_1321 (X : Nat × (Nat → Int32)) : ins (ML_law X) 1321 = some (.ireturn) := by show ins (ML_law (0, fun _ => 0)) 1321 = _; decide +kernel
theorem i_L_law_1322 (X : Nat × (Nat → Int32)) : ins (ML_law X) 1322 = some (.iinc 3 6) := by show ins (ML_law (0, fun _ => 0)) 1322 = _; decide +kernel
theorem i_L_law_1325 (X : Nat × (Nat → Int32)) : ins (ML_law X) 1325 = some (.goto (-1307)) := by show ins (ML_law (0, fun _ => 0)) 1325 = _; decide +kernel
theorem i_L_law_1328 (X : Nat × (Nat → Int32)) : ins (ML_law X) 1328 = some (.iconst 1) := by show ins (ML_law (0, fun _ => 0)) 1328 = _; decide +kernel
theorem i_L_law_1329 (X : Nat × (Nat → Int32)) : ins (ML_law X) 1329 = some (.ireturn) := by show ins (ML_law (0, fun _ => 0)) 1329 = _; decide +kernel
