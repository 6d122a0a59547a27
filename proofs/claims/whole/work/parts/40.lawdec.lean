section WL
variable {X : Cx} {E : En} {cc : ByteArray} {own : String} {nL d pc np b Ln : Nat} {xs : Nat → Int32} {ls : List (Nat × Value)} {st : List Value} {sh : List Sh} {mem : Mm} {x : Int32}
theorem w_sld (S : Std X E cc own nL d) (hX : va_X b Ln xs (cxS X) (cxS X).heap) (hbl : b < (cxS X).heap.size) (hbA : ¬ Ab E b) (hd : decode cc pc = .ok (.iaload, 1) ∧ pc + 1 = np) (hi : inb x Ln = true) (kk : J X E nL np ls (.int (xs (ix x)) :: st) sh mem) : J X E nL pc ls (.int x :: .ref b :: st) sh mem := by
  obtain ⟨hd, rfl⟩ := hd
  exact fun H locs arr hP hS hl => va_sld S.1 S.2.1 hX hbl hbA hS (inb_vp hi) hd (kk H locs arr hP hS hl)
theorem w_slen (S : Std X E cc own nL d) (hX : va_X b Ln xs (cxS X) (cxS X).heap) (hbl : b < (cxS X).heap.size) (hbA : ¬ Ab E b) (hd : decode cc pc = .ok (.arraylength, 1) ∧ pc + 1 = np) (kk : J X E nL np ls (.int (Int32.ofNat Ln) :: st) sh mem) : J X E nL pc ls (.ref b :: st) sh mem := by
  obtain ⟨hd, rfl⟩ := hd
  exact fun H locs arr hP hS hl => va_slen S.1 S.2.1 hX hbl hbA hS hd (kk H locs arr hP hS hl)
end WL
theorem cb_63 : (Int8.ofInt 63).toInt32 = 63 := by decide +kernel
theorem ci_6 : Int32.ofInt 6 = 6 := by decide +kernel
theorem tout_0_42 {x : Int32} (h0 : ¬ x = 0) (h1 : ¬ x = 1) (h2 : ¬ x = 2) (h3 : ¬ x = 3) (h4 : ¬ x = 4) (h5 : ¬ x = 5) (h6 : ¬ x = 6) (h7 : ¬ x = 7) (h8 : ¬ x = 8) (h9 : ¬ x = 9) (h10 : ¬ x = 10) (h11 : ¬ x = 11) (h12 : ¬ x = 12) (h13 : ¬ x = 13) (h14 : ¬ x = 14) (h15 : ¬ x = 15) (h16 : ¬ x = 16) (h17 : ¬ x = 17) (h18 : ¬ x = 18) (h19 : ¬ x = 19) (h20 : ¬ x = 20) (h21 : ¬ x = 21) (h22 : ¬ x = 22) (h23 : ¬ x = 23) (h24 : ¬ x = 24) (h25 : ¬ x = 25) (h26 : ¬ x = 26) (h27 : ¬ x = 27) (h28 : ¬ x = 28) (h29 : ¬ x = 29) (h30 : ¬ x = 30) (h31 : ¬ x = 31) (h32 : ¬ x = 32) (h33 : ¬ x = 33) (h34 : ¬ x = 34) (h35 : ¬ x = 35) (h36 : ¬ x = 36) (h37 : ¬ x = 37) (h38 : ¬ x = 38) (h39 : ¬ x = 39) (h40 : ¬ x = 40) (h41 : ¬ x = 41) (h42 : ¬ x = 42) : x.toInt < 0 ∨ 42 < x.toInt := by
  have g0 := lv_neT (a := 0) h0 (by decide +kernel)
  have g1 := lv_neT (a := 1) h1 (by decide +kernel)
  have g2 := lv_neT (a := 2) h2 (by decide +kernel)
  have g3 := lv_neT (a := 3) h3 (by decide +kernel)
  have g4 := lv_neT (a := 4) h4 (by decide +kernel)
  have g5 := lv_neT (a := 5) h5 (by decide +kernel)
  have g6 := lv_neT (a := 6) h6 (by decide +kernel)
  have g7 := lv_neT (a := 7) h7 (by decide +kernel)
  have g8 := lv_neT (a := 8) h8 (by decide +kernel)
  have g9 := lv_neT (a := 9) h9 (by decide +kernel)
  have g10 := lv_neT (a := 10) h10 (by decide +kernel)
  have g11 := lv_neT (a := 11) h11 (by decide +kernel)
  have g12 := lv_neT (a := 12) h12 (by decide +kernel)
  have g13 := lv_neT (a := 13) h13 (by decide +kernel)
  have g14 := lv_neT (a := 14) h14 (by decide +kernel)
  have g15 := lv_neT (a := 15) h15 (by decide +kernel)
  have g16 := lv_neT (a := 16) h16 (by decide +kernel)
  have g17 := lv_neT (a := 17) h17 (by decide +kernel)
  have g18 := lv_neT (a := 18) h18 (by decide +kernel)
  have g19 := lv_neT (a := 19) h19 (by decide +kernel)
  have g20 := lv_neT (a := 20) h20 (by decide +kernel)
  have g21 := lv_neT (a := 21) h21 (by decide +kernel)
  have g22 := lv_neT (a := 22) h22 (by decide +kernel)
  have g23 := lv_neT (a := 23) h23 (by decide +kernel)
  have g24 := lv_neT (a := 24) h24 (by decide +kernel)
  have g25 := lv_neT (a := 25) h25 (by decide +kernel)
  have g26 := lv_neT (a := 26) h26 (by decide +kernel)
  have g27 := lv_neT (a := 27) h27 (by decide +kernel)
  have g28 := lv_neT (a := 28) h28 (by decide +kernel)
  have g29 := lv_neT (a := 29) h29 (by decide +kernel)
  have g30 := lv_neT (a := 30) h30 (by decide +kernel)
  have g31 := lv_neT (a := 31) h31 (by decide +kernel)
  have g32 := lv_neT (a := 32) h32 (by decide +kernel)
  have g33 := lv_neT (a := 33) h33 (by decide +kernel)
  have g34 := lv_neT (a := 34) h34 (by decide +kernel)
  have g35 := lv_neT (a := 35) h35 (by decide +kernel)
  have g36 := lv_neT (a := 36) h36 (by decide +kernel)
  have g37 := lv_neT (a := 37) h37 (by decide +kernel)
  have g38 := lv_neT (a := 38) h38 (by decide +kernel)
  have g39 := lv_neT (a := 39) h39 (by decide +kernel)
  have g40 := lv_neT (a := 40) h40 (by decide +kernel)
  have g41 := lv_neT (a := 41) h41 (by decide +kernel)
  have g42 := lv_neT (a := 42) h42 (by decide +kernel)
  omega
theorem D_W_law_18 : decode code 18 = .ok (.iload_n 3, 1) ∧ 18 + 1 = 19 := by decide +kernel
theorem D_W_law_19 : decode code 19 = .ok (.aload_n 0, 1) ∧ 19 + 1 = 20 := by decide +kernel
theorem D_W_law_20 : decode code 20 = .ok (.arraylength, 1) ∧ 20 + 1 = 21 := by decide +kernel
theorem D_W_law_21 : decode code 21 = .ok (.bipush 6, 2) ∧ 21 + 2 = 23 := by decide +kernel
theorem D_W_law_23 : decode code 23 = .ok (.isub, 1) ∧ 23 + 1 = 24 := by decide +kernel
theorem D_W_law_24 : decode code 24 = .ok (.if_icmp .gt 1481, 3) ∧ ((24 : Nat) : Int) + 1481 = ((1505 : Nat) : Int) ∧ 24 + 3 = 27 := by decide +kernel
theorem D_W_law_1505 : decode code 1505 = .ok (.iconst 1, 1) ∧ 1505 + 1 = 1506 := by decide +kernel
theorem D_W_law_1506 : decode code 1506 = .ok (.ireturn, 1) := by decide +kernel
theorem D_W_law_27 : decode code 27 = .ok (.aload_n 0, 1) ∧ 27 + 1 = 28 := by decide +kernel
theorem D_W_law_28 : decode code 28 = .ok (.iload_n 3, 1) ∧ 28 + 1 = 29 := by decide +kernel
theorem D_W_law_29 : decode code 29 = .ok (.iaload, 1) ∧ 29 + 1 = 30 := by decide +kernel
theorem D_W_law_30 : decode code 30 = .ok (.bipush 63, 2) ∧ 30 + 2 = 32 := by decide +kernel
theorem D_W_law_32 : decode code 32 = .ok (.iand, 1) ∧ 32 + 1 = 33 := by decide +kernel
theorem D_W_law_33 : decode code 33 = .ok (.tableswitch 1466 0 42 #[187, 230, 263, 306, 339, 372, 415, 448, 481, 514, 537, 560, 583, 606, 629, 652, 685, 708, 731, 774, 797, 810, 843, 886, 899, 942, 965, 978, 1011, 1034, 1077, 1120, 1143, 1166, 1229, 1272, 1305, 1338, 1371, 1394, 1417, 1430, 1443], 187) := by decide +kernel
theorem D_W_law_220 : decode code 220 = .ok (.aload_n 1, 1) ∧ 220 + 1 = 221 := by decide +kernel
theorem D_W_law_221 : decode code 221 = .ok (.aload_n 0, 1) ∧ 221 + 1 = 222 := by decide +kernel
theorem D_W_law_222 : decode code 222 = .ok (.iload_n 3, 1) ∧ 222 + 1 = 223 := by decide +kernel
theorem D_W_law_223 : decode code 223 = .ok (.iconst 1, 1) ∧ 223 + 1 = 224 := by decide +kernel
theorem D_W_law_224 : decode code 224 = .ok (.iadd, 1) ∧ 224 + 1 = 225 := by decide +kernel
theorem D_W_law_225 : decode code 225 = .ok (.iaload, 1) ∧ 225 + 1 = 226 := by decide +kernel
theorem D_W_law_226 : decode code 226 = .ok (.aload_n 0, 1) ∧ 226 + 1 = 227 := by decide +kernel
theorem D_W_law_227 : decode code 227 = .ok (.iload_n 3, 1) ∧ 227 + 1 = 228 := by decide +kernel
theorem D_W_law_228 : decode code 228 = .ok (.iconst 2, 1) ∧ 228 + 1 = 229 := by decide +kernel
theorem D_W_law_229 : decode code 229 = .ok (.iadd, 1) ∧ 229 + 1 = 230 := by decide +kernel
theorem D_W_law_230 : decode code 230 = .ok (.iaload, 1) ∧ 230 + 1 = 231 := by decide +kernel
theorem D_W_law_231 : decode code 231 = .ok (.aload_n 0, 1) ∧ 231 + 1 = 232 := by decide +kernel
theorem D_W_law_232 : decode code 232 = .ok (.iload_n 3, 1) ∧ 232 + 1 = 233 := by decide +kernel
theorem D_W_law_233 : decode code 233 = .ok (.iconst 3, 1) ∧ 233 + 1 = 234 := by decide +kernel
theorem D_W_law_234 : decode code 234 = .ok (.iadd, 1) ∧ 234 + 1 = 235 := by decide +kernel
theorem D_W_law_235 : decode code 235 = .ok (.iaload, 1) ∧ 235 + 1 = 236 := by decide +kernel
theorem D_W_law_236 : decode code 236 = .ok (.invokevirtual 13, 3) ∧ 236 + 3 = 239 := by decide +kernel
theorem D_W_law_239 : decode code 239 = .ok (.aload_n 2, 1) ∧ 239 + 1 = 240 := by decide +kernel
theorem D_W_law_240 : decode code 240 = .ok (.aload_n 0, 1) ∧ 240 + 1 = 241 := by decide +kernel
theorem D_W_law_241 : decode code 241 = .ok (.iload_n 3, 1) ∧ 241 + 1 = 242 := by decide +kernel
theorem D_W_law_242 : decode code 242 = .ok (.iconst 1, 1) ∧ 242 + 1 = 243 := by decide +kernel
theorem D_W_law_243 : decode code 243 = .ok (.iadd, 1) ∧ 243 + 1 = 244 := by decide +kernel
theorem D_W_law_244 : decode code 244 = .ok (.iaload, 1) ∧ 244 + 1 = 245 := by decide +kernel
theorem D_W_law_245 : decode code 245 = .ok (.aload_n 0, 1) ∧ 245 + 1 = 246 := by decide +kernel
theorem D_W_law_246 : decode code 246 = .ok (.iload_n 3, 1) ∧ 246 + 1 = 247 := by decide +kernel
theorem D_W_law_247 : decode code 247 = .ok (.iconst 2, 1) ∧ 247 + 1 = 248 := by decide +kernel
theorem D_W_law_248 : decode code 248 = .ok (.iadd, 1) ∧ 248 + 1 = 249 := by decide +kernel
theorem D_W_law_249 : decode code 249 = .ok (.iaload, 1) ∧ 249 + 1 = 250 := by decide +kernel
theorem D_W_law_250 : decode code 250 = .ok (.aload_n 0, 1) ∧ 250 + 1 = 251 := by decide +kernel
theorem D_W_law_251 : decode code 251 = .ok (.iload_n 3, 1) ∧ 251 + 1 = 252 := by decide +kernel
theorem D_W_law_252 : decode code 252 = .ok (.iconst 3, 1) ∧ 252 + 1 = 253 := by decide +kernel
theorem D_W_law_253 : decode code 253 = .ok (.iadd, 1) ∧ 253 + 1 = 254 := by decide +kernel
theorem D_W_law_254 : decode code 254 = .ok (.iaload, 1) ∧ 254 + 1 = 255 := by decide +kernel
theorem D_W_law_255 : decode code 255 = .ok (.invokevirtual 17, 3) ∧ 255 + 3 = 258 := by decide +kernel
theorem D_W_law_258 : decode code 258 = .ok (.if_icmp .eq 1241, 3) ∧ ((258 : Nat) : Int) + 1241 = ((1499 : Nat) : Int) ∧ 258 + 3 = 261 := by decide +kernel
theorem D_W_law_1499 : decode code 1499 = .ok (.iinc 3 6, 3) ∧ 1499 + 3 = 1502 := by decide +kernel
theorem D_W_law_1502 : decode code 1502 = .ok (.goto (-1484), 3) ∧ ((1502 : Nat) : Int) + (-1484) = ((18 : Nat) : Int) := by decide +kernel
theorem D_W_law_261 : decode code 261 = .ok (.iconst 0, 1) ∧ 261 + 1 = 262 := by decide +kernel
theorem D_W_law_263 : decode code 263 = .ok (.aload_n 1, 1) ∧ 263 + 1 = 264 := by decide +kernel
theorem D_W_law_264 : decode code 264 = .ok (.aload_n 0, 1) ∧ 264 + 1 = 265 := by decide +kernel
theorem D_W_law_265 : decode code 265 = .ok (.iload_n 3, 1) ∧ 265 + 1 = 266 := by decide +kernel
theorem D_W_law_266 : decode code 266 = .ok (.iconst 1, 1) ∧ 266 + 1 = 267 := by decide +kernel
theorem D_W_law_267 : decode code 267 = .ok (.iadd, 1) ∧ 267 + 1 = 268 := by decide +kernel
theorem D_W_law_268 : decode code 268 = .ok (.iaload, 1) ∧ 268 + 1 = 269 := by decide +kernel
theorem D_W_law_269 : decode code 269 = .ok (.aload_n 0, 1) ∧ 269 + 1 = 270 := by decide +kernel
theorem D_W_law_270 : decode code 270 = .ok (.iload_n 3, 1) ∧ 270 + 1 = 271 := by decide +kernel
theorem D_W_law_271 : decode code 271 = .ok (.iconst 2, 1) ∧ 271 + 1 = 272 := by decide +kernel
theorem D_W_law_272 : decode code 272 = .ok (.iadd, 1) ∧ 272 + 1 = 273 := by decide +kernel
theorem D_W_law_273 : decode code 273 = .ok (.iaload, 1) ∧ 273 + 1 = 274 := by decide +kernel
theorem D_W_law_274 : decode code 274 = .ok (.invokevirtual 18, 3) ∧ 274 + 3 = 277 := by decide +kernel
theorem D_W_law_277 : decode code 277 = .ok (.aload_n 2, 1) ∧ 277 + 1 = 278 := by decide +kernel
theorem D_W_law_278 : decode code 278 = .ok (.aload_n 0, 1) ∧ 278 + 1 = 279 := by decide +kernel
theorem D_W_law_279 : decode code 279 = .ok (.iload_n 3, 1) ∧ 279 + 1 = 280 := by decide +kernel
theorem D_W_law_280 : decode code 280 = .ok (.iconst 1, 1) ∧ 280 + 1 = 281 := by decide +kernel
theorem D_W_law_281 : decode code 281 = .ok (.iadd, 1) ∧ 281 + 1 = 282 := by decide +kernel
theorem D_W_law_282 : decode code 282 = .ok (.iaload, 1) ∧ 282 + 1 = 283 := by decide +kernel
theorem D_W_law_283 : decode code 283 = .ok (.aload_n 0, 1) ∧ 283 + 1 = 284 := by decide +kernel
theorem D_W_law_284 : decode code 284 = .ok (.iload_n 3, 1) ∧ 284 + 1 = 285 := by decide +kernel
theorem D_W_law_285 : decode code 285 = .ok (.iconst 2, 1) ∧ 285 + 1 = 286 := by decide +kernel
theorem D_W_law_286 : decode code 286 = .ok (.iadd, 1) ∧ 286 + 1 = 287 := by decide +kernel
theorem D_W_law_287 : decode code 287 = .ok (.iaload, 1) ∧ 287 + 1 = 288 := by decide +kernel
theorem D_W_law_288 : decode code 288 = .ok (.invokevirtual 22, 3) ∧ 288 + 3 = 291 := by decide +kernel
theorem D_W_law_291 : decode code 291 = .ok (.if_icmp .eq 1208, 3) ∧ ((291 : Nat) : Int) + 1208 = ((1499 : Nat) : Int) ∧ 291 + 3 = 294 := by decide +kernel
theorem D_W_law_294 : decode code 294 = .ok (.iconst 0, 1) ∧ 294 + 1 = 295 := by decide +kernel
theorem D_W_law_296 : decode code 296 = .ok (.aload_n 1, 1) ∧ 296 + 1 = 297 := by decide +kernel
theorem D_W_law_297 : decode code 297 = .ok (.aload_n 0, 1) ∧ 297 + 1 = 298 := by decide +kernel
theorem D_W_law_298 : decode code 298 = .ok (.iload_n 3, 1) ∧ 298 + 1 = 299 := by decide +kernel
theorem D_W_law_299 : decode code 299 = .ok (.iconst 1, 1) ∧ 299 + 1 = 300 := by decide +kernel
theorem D_W_law_300 : decode code 300 = .ok (.iadd, 1) ∧ 300 + 1 = 301 := by decide +kernel
theorem D_W_law_301 : decode code 301 = .ok (.iaload, 1) ∧ 301 + 1 = 302 := by decide +kernel
theorem D_W_law_302 : decode code 302 = .ok (.aload_n 0, 1) ∧ 302 + 1 = 303 := by decide +kernel
theorem D_W_law_303 : decode code 303 = .ok (.iload_n 3, 1) ∧ 303 + 1 = 304 := by decide +kernel
theorem D_W_law_304 : decode code 304 = .ok (.iconst 2, 1) ∧ 304 + 1 = 305 := by decide +kernel
theorem D_W_law_305 : decode code 305 = .ok (.iadd, 1) ∧ 305 + 1 = 306 := by decide +kernel
theorem D_W_law_306 : decode code 306 = .ok (.iaload, 1) ∧ 306 + 1 = 307 := by decide +kernel
theorem D_W_law_307 : decode code 307 = .ok (.aload_n 0, 1) ∧ 307 + 1 = 308 := by decide +kernel
theorem D_W_law_308 : decode code 308 = .ok (.iload_n 3, 1) ∧ 308 + 1 = 309 := by decide +kernel
theorem D_W_law_309 : decode code 309 = .ok (.iconst 3, 1) ∧ 309 + 1 = 310 := by decide +kernel
theorem D_W_law_310 : decode code 310 = .ok (.iadd, 1) ∧ 310 + 1 = 311 := by decide +kernel
theorem D_W_law_311 : decode code 311 = .ok (.iaload, 1) ∧ 311 + 1 = 312 := by decide +kernel
theorem D_W_law_312 : decode code 312 = .ok (.invokevirtual 23, 3) ∧ 312 + 3 = 315 := by decide +kernel
theorem D_W_law_315 : decode code 315 = .ok (.aload_n 2, 1) ∧ 315 + 1 = 316 := by decide +kernel
theorem D_W_law_316 : decode code 316 = .ok (.aload_n 0, 1) ∧ 316 + 1 = 317 := by decide +kernel
theorem D_W_law_317 : decode code 317 = .ok (.iload_n 3, 1) ∧ 317 + 1 = 318 := by decide +kernel
theorem D_W_law_318 : decode code 318 = .ok (.iconst 1, 1) ∧ 318 + 1 = 319 := by decide +kernel
theorem D_W_law_319 : decode code 319 = .ok (.iadd, 1) ∧ 319 + 1 = 320 := by decide +kernel
theorem D_W_law_320 : decode code 320 = .ok (.iaload, 1) ∧ 320 + 1 = 321 := by decide +kernel
theorem D_W_law_321 : decode code 321 = .ok (.aload_n 0, 1) ∧ 321 + 1 = 322 := by decide +kernel
theorem D_W_law_322 : decode code 322 = .ok (.iload_n 3, 1) ∧ 322 + 1 = 323 := by decide +kernel
theorem D_W_law_323 : decode code 323 = .ok (.iconst 2, 1) ∧ 323 + 1 = 324 := by decide +kernel
theorem D_W_law_324 : decode code 324 = .ok (.iadd, 1) ∧ 324 + 1 = 325 := by decide +kernel
theorem D_W_law_325 : decode code 325 = .ok (.iaload, 1) ∧ 325 + 1 = 326 := by decide +kernel
theorem D_W_law_326 : decode code 326 = .ok (.aload_n 0, 1) ∧ 326 + 1 = 327 := by decide +kernel
theorem D_W_law_327 : decode code 327 = .ok (.iload_n 3, 1) ∧ 327 + 1 = 328 := by decide +kernel
theorem D_W_law_328 : decode code 328 = .ok (.iconst 3, 1) ∧ 328 + 1 = 329 := by decide +kernel
theorem D_W_law_329 : decode code 329 = .ok (.iadd, 1) ∧ 329 + 1 = 330 := by decide +kernel
theorem D_W_law_330 : decode code 330 = .ok (.iaload, 1) ∧ 330 + 1 = 331 := by decide +kernel
theorem D_W_law_331 : decode code 331 = .ok (.invokevirtual 26, 3) ∧ 331 + 3 = 334 := by decide +kernel
theorem D_W_law_334 : decode code 334 = .ok (.if_icmp .eq 1165, 3) ∧ ((334 : Nat) : Int) + 1165 = ((1499 : Nat) : Int) ∧ 334 + 3 = 337 := by decide +kernel
theorem D_W_law_337 : decode code 337 = .ok (.iconst 0, 1) ∧ 337 + 1 = 338 := by decide +kernel
theorem D_W_law_339 : decode code 339 = .ok (.aload_n 1, 1) ∧ 339 + 1 = 340 := by decide +kernel
theorem D_W_law_340 : decode code 340 = .ok (.aload_n 0, 1) ∧ 340 + 1 = 341 := by decide +kernel
theorem D_W_law_341 : decode code 341 = .ok (.iload_n 3, 1) ∧ 341 + 1 = 342 := by decide +kernel
theorem D_W_law_342 : decode code 342 = .ok (.iconst 1, 1) ∧ 342 + 1 = 343 := by decide +kernel
theorem D_W_law_343 : decode code 343 = .ok (.iadd, 1) ∧ 343 + 1 = 344 := by decide +kernel
theorem D_W_law_344 : decode code 344 = .ok (.iaload, 1) ∧ 344 + 1 = 345 := by decide +kernel
theorem D_W_law_345 : decode code 345 = .ok (.aload_n 0, 1) ∧ 345 + 1 = 346 := by decide +kernel
theorem D_W_law_346 : decode code 346 = .ok (.iload_n 3, 1) ∧ 346 + 1 = 347 := by decide +kernel
theorem D_W_law_347 : decode code 347 = .ok (.iconst 2, 1) ∧ 347 + 1 = 348 := by decide +kernel
theorem D_W_law_348 : decode code 348 = .ok (.iadd, 1) ∧ 348 + 1 = 349 := by decide +kernel
theorem D_W_law_349 : decode code 349 = .ok (.iaload, 1) ∧ 349 + 1 = 350 := by decide +kernel
theorem D_W_law_350 : decode code 350 = .ok (.invokevirtual 27, 3) ∧ 350 + 3 = 353 := by decide +kernel
theorem D_W_law_353 : decode code 353 = .ok (.aload_n 2, 1) ∧ 353 + 1 = 354 := by decide +kernel
theorem D_W_law_354 : decode code 354 = .ok (.aload_n 0, 1) ∧ 354 + 1 = 355 := by decide +kernel
theorem D_W_law_355 : decode code 355 = .ok (.iload_n 3, 1) ∧ 355 + 1 = 356 := by decide +kernel
theorem D_W_law_356 : decode code 356 = .ok (.iconst 1, 1) ∧ 356 + 1 = 357 := by decide +kernel
theorem D_W_law_357 : decode code 357 = .ok (.iadd, 1) ∧ 357 + 1 = 358 := by decide +kernel
theorem D_W_law_358 : decode code 358 = .ok (.iaload, 1) ∧ 358 + 1 = 359 := by decide +kernel
theorem D_W_law_359 : decode code 359 = .ok (.aload_n 0, 1) ∧ 359 + 1 = 360 := by decide +kernel
theorem D_W_law_360 : decode code 360 = .ok (.iload_n 3, 1) ∧ 360 + 1 = 361 := by decide +kernel
theorem D_W_law_361 : decode code 361 = .ok (.iconst 2, 1) ∧ 361 + 1 = 362 := by decide +kernel
theorem D_W_law_362 : decode code 362 = .ok (.iadd, 1) ∧ 362 + 1 = 363 := by decide +kernel
theorem D_W_law_363 : decode code 363 = .ok (.iaload, 1) ∧ 363 + 1 = 364 := by decide +kernel
theorem D_W_law_364 : decode code 364 = .ok (.invokevirtual 30, 3) ∧ 364 + 3 = 367 := by decide +kernel
theorem D_W_law_367 : decode code 367 = .ok (.if_icmp .eq 1132, 3) ∧ ((367 : Nat) : Int) + 1132 = ((1499 : Nat) : Int) ∧ 367 + 3 = 370 := by decide +kernel
theorem D_W_law_370 : decode code 370 = .ok (.iconst 0, 1) ∧ 370 + 1 = 371 := by decide +kernel
theorem D_W_law_372 : decode code 372 = .ok (.aload_n 1, 1) ∧ 372 + 1 = 373 := by decide +kernel
theorem D_W_law_373 : decode code 373 = .ok (.aload_n 0, 1) ∧ 373 + 1 = 374 := by decide +kernel
theorem D_W_law_374 : decode code 374 = .ok (.iload_n 3, 1) ∧ 374 + 1 = 375 := by decide +kernel
theorem D_W_law_375 : decode code 375 = .ok (.iconst 1, 1) ∧ 375 + 1 = 376 := by decide +kernel
theorem D_W_law_376 : decode code 376 = .ok (.iadd, 1) ∧ 376 + 1 = 377 := by decide +kernel
theorem D_W_law_377 : decode code 377 = .ok (.iaload, 1) ∧ 377 + 1 = 378 := by decide +kernel
theorem D_W_law_378 : decode code 378 = .ok (.aload_n 0, 1) ∧ 378 + 1 = 379 := by decide +kernel
theorem D_W_law_379 : decode code 379 = .ok (.iload_n 3, 1) ∧ 379 + 1 = 380 := by decide +kernel
theorem D_W_law_380 : decode code 380 = .ok (.iconst 2, 1) ∧ 380 + 1 = 381 := by decide +kernel
theorem D_W_law_381 : decode code 381 = .ok (.iadd, 1) ∧ 381 + 1 = 382 := by decide +kernel
theorem D_W_law_382 : decode code 382 = .ok (.iaload, 1) ∧ 382 + 1 = 383 := by decide +kernel
theorem D_W_law_383 : decode code 383 = .ok (.invokevirtual 31, 3) ∧ 383 + 3 = 386 := by decide +kernel
theorem D_W_law_386 : decode code 386 = .ok (.aload_n 2, 1) ∧ 386 + 1 = 387 := by decide +kernel
theorem D_W_law_387 : decode code 387 = .ok (.aload_n 0, 1) ∧ 387 + 1 = 388 := by decide +kernel
theorem D_W_law_388 : decode code 388 = .ok (.iload_n 3, 1) ∧ 388 + 1 = 389 := by decide +kernel
theorem D_W_law_389 : decode code 389 = .ok (.iconst 1, 1) ∧ 389 + 1 = 390 := by decide +kernel
theorem D_W_law_390 : decode code 390 = .ok (.iadd, 1) ∧ 390 + 1 = 391 := by decide +kernel
theorem D_W_law_391 : decode code 391 = .ok (.iaload, 1) ∧ 391 + 1 = 392 := by decide +kernel
theorem D_W_law_392 : decode code 392 = .ok (.aload_n 0, 1) ∧ 392 + 1 = 393 := by decide +kernel
theorem D_W_law_393 : decode code 393 = .ok (.iload_n 3, 1) ∧ 393 + 1 = 394 := by decide +kernel
theorem D_W_law_394 : decode code 394 = .ok (.iconst 2, 1) ∧ 394 + 1 = 395 := by decide +kernel
theorem D_W_law_395 : decode code 395 = .ok (.iadd, 1) ∧ 395 + 1 = 396 := by decide +kernel
theorem D_W_law_396 : decode code 396 = .ok (.iaload, 1) ∧ 396 + 1 = 397 := by decide +kernel
theorem D_W_law_397 : decode code 397 = .ok (.invokevirtual 34, 3) ∧ 397 + 3 = 400 := by decide +kernel
theorem D_W_law_400 : decode code 400 = .ok (.if_icmp .eq 1099, 3) ∧ ((400 : Nat) : Int) + 1099 = ((1499 : Nat) : Int) ∧ 400 + 3 = 403 := by decide +kernel
theorem D_W_law_403 : decode code 403 = .ok (.iconst 0, 1) ∧ 403 + 1 = 404 := by decide +kernel
theorem D_W_law_405 : decode code 405 = .ok (.aload_n 1, 1) ∧ 405 + 1 = 406 := by decide +kernel
theorem D_W_law_406 : decode code 406 = .ok (.aload_n 0, 1) ∧ 406 + 1 = 407 := by decide +kernel
theorem D_W_law_407 : decode code 407 = .ok (.iload_n 3, 1) ∧ 407 + 1 = 408 := by decide +kernel
theorem D_W_law_408 : decode code 408 = .ok (.iconst 1, 1) ∧ 408 + 1 = 409 := by decide +kernel
theorem D_W_law_409 : decode code 409 = .ok (.iadd, 1) ∧ 409 + 1 = 410 := by decide +kernel
theorem D_W_law_410 : decode code 410 = .ok (.iaload, 1) ∧ 410 + 1 = 411 := by decide +kernel
theorem D_W_law_411 : decode code 411 = .ok (.aload_n 0, 1) ∧ 411 + 1 = 412 := by decide +kernel
theorem D_W_law_412 : decode code 412 = .ok (.iload_n 3, 1) ∧ 412 + 1 = 413 := by decide +kernel
theorem D_W_law_413 : decode code 413 = .ok (.iconst 2, 1) ∧ 413 + 1 = 414 := by decide +kernel
theorem D_W_law_414 : decode code 414 = .ok (.iadd, 1) ∧ 414 + 1 = 415 := by decide +kernel
theorem D_W_law_415 : decode code 415 = .ok (.iaload, 1) ∧ 415 + 1 = 416 := by decide +kernel
theorem D_W_law_416 : decode code 416 = .ok (.aload_n 0, 1) ∧ 416 + 1 = 417 := by decide +kernel
theorem D_W_law_417 : decode code 417 = .ok (.iload_n 3, 1) ∧ 417 + 1 = 418 := by decide +kernel
theorem D_W_law_418 : decode code 418 = .ok (.iconst 3, 1) ∧ 418 + 1 = 419 := by decide +kernel
theorem D_W_law_419 : decode code 419 = .ok (.iadd, 1) ∧ 419 + 1 = 420 := by decide +kernel
theorem D_W_law_420 : decode code 420 = .ok (.iaload, 1) ∧ 420 + 1 = 421 := by decide +kernel
theorem D_W_law_421 : decode code 421 = .ok (.invokevirtual 35, 3) ∧ 421 + 3 = 424 := by decide +kernel
theorem D_W_law_424 : decode code 424 = .ok (.aload_n 2, 1) ∧ 424 + 1 = 425 := by decide +kernel
theorem D_W_law_425 : decode code 425 = .ok (.aload_n 0, 1) ∧ 425 + 1 = 426 := by decide +kernel
theorem D_W_law_426 : decode code 426 = .ok (.iload_n 3, 1) ∧ 426 + 1 = 427 := by decide +kernel
theorem D_W_law_427 : decode code 427 = .ok (.iconst 1, 1) ∧ 427 + 1 = 428 := by decide +kernel
theorem D_W_law_428 : decode code 428 = .ok (.iadd, 1) ∧ 428 + 1 = 429 := by decide +kernel
theorem D_W_law_429 : decode code 429 = .ok (.iaload, 1) ∧ 429 + 1 = 430 := by decide +kernel
theorem D_W_law_430 : decode code 430 = .ok (.aload_n 0, 1) ∧ 430 + 1 = 431 := by decide +kernel
theorem D_W_law_431 : decode code 431 = .ok (.iload_n 3, 1) ∧ 431 + 1 = 432 := by decide +kernel
theorem D_W_law_432 : decode code 432 = .ok (.iconst 2, 1) ∧ 432 + 1 = 433 := by decide +kernel
theorem D_W_law_433 : decode code 433 = .ok (.iadd, 1) ∧ 433 + 1 = 434 := by decide +kernel
theorem D_W_law_434 : decode code 434 = .ok (.iaload, 1) ∧ 434 + 1 = 435 := by decide +kernel
theorem D_W_law_435 : decode code 435 = .ok (.aload_n 0, 1) ∧ 435 + 1 = 436 := by decide +kernel
theorem D_W_law_436 : decode code 436 = .ok (.iload_n 3, 1) ∧ 436 + 1 = 437 := by decide +kernel
theorem D_W_law_437 : decode code 437 = .ok (.iconst 3, 1) ∧ 437 + 1 = 438 := by decide +kernel
theorem D_W_law_438 : decode code 438 = .ok (.iadd, 1) ∧ 438 + 1 = 439 := by decide +kernel
theorem D_W_law_439 : decode code 439 = .ok (.iaload, 1) ∧ 439 + 1 = 440 := by decide +kernel
theorem D_W_law_440 : decode code 440 = .ok (.invokevirtual 38, 3) ∧ 440 + 3 = 443 := by decide +kernel
theorem D_W_law_443 : decode code 443 = .ok (.if_icmp .eq 1056, 3) ∧ ((443 : Nat) : Int) + 1056 = ((1499 : Nat) : Int) ∧ 443 + 3 = 446 := by decide +kernel
theorem D_W_law_446 : decode code 446 = .ok (.iconst 0, 1) ∧ 446 + 1 = 447 := by decide +kernel
theorem D_W_law_448 : decode code 448 = .ok (.aload_n 1, 1) ∧ 448 + 1 = 449 := by decide +kernel
theorem D_W_law_449 : decode code 449 = .ok (.aload_n 0, 1) ∧ 449 + 1 = 450 := by decide +kernel
theorem D_W_law_450 : decode code 450 = .ok (.iload_n 3, 1) ∧ 450 + 1 = 451 := by decide +kernel
theorem D_W_law_451 : decode code 451 = .ok (.iconst 1, 1) ∧ 451 + 1 = 452 := by decide +kernel
theorem D_W_law_452 : decode code 452 = .ok (.iadd, 1) ∧ 452 + 1 = 453 := by decide +kernel
theorem D_W_law_453 : decode code 453 = .ok (.iaload, 1) ∧ 453 + 1 = 454 := by decide +kernel
theorem D_W_law_454 : decode code 454 = .ok (.aload_n 0, 1) ∧ 454 + 1 = 455 := by decide +kernel
theorem D_W_law_455 : decode code 455 = .ok (.iload_n 3, 1) ∧ 455 + 1 = 456 := by decide +kernel
theorem D_W_law_456 : decode code 456 = .ok (.iconst 2, 1) ∧ 456 + 1 = 457 := by decide +kernel
theorem D_W_law_457 : decode code 457 = .ok (.iadd, 1) ∧ 457 + 1 = 458 := by decide +kernel
theorem D_W_law_458 : decode code 458 = .ok (.iaload, 1) ∧ 458 + 1 = 459 := by decide +kernel
theorem D_W_law_459 : decode code 459 = .ok (.invokevirtual 39, 3) ∧ 459 + 3 = 462 := by decide +kernel
theorem D_W_law_462 : decode code 462 = .ok (.aload_n 2, 1) ∧ 462 + 1 = 463 := by decide +kernel
theorem D_W_law_463 : decode code 463 = .ok (.aload_n 0, 1) ∧ 463 + 1 = 464 := by decide +kernel
theorem D_W_law_464 : decode code 464 = .ok (.iload_n 3, 1) ∧ 464 + 1 = 465 := by decide +kernel
theorem D_W_law_465 : decode code 465 = .ok (.iconst 1, 1) ∧ 465 + 1 = 466 := by decide +kernel
theorem D_W_law_466 : decode code 466 = .ok (.iadd, 1) ∧ 466 + 1 = 467 := by decide +kernel
theorem D_W_law_467 : decode code 467 = .ok (.iaload, 1) ∧ 467 + 1 = 468 := by decide +kernel
theorem D_W_law_468 : decode code 468 = .ok (.aload_n 0, 1) ∧ 468 + 1 = 469 := by decide +kernel
theorem D_W_law_469 : decode code 469 = .ok (.iload_n 3, 1) ∧ 469 + 1 = 470 := by decide +kernel
theorem D_W_law_470 : decode code 470 = .ok (.iconst 2, 1) ∧ 470 + 1 = 471 := by decide +kernel
theorem D_W_law_471 : decode code 471 = .ok (.iadd, 1) ∧ 471 + 1 = 472 := by decide +kernel
theorem D_W_law_472 : decode code 472 = .ok (.iaload, 1) ∧ 472 + 1 = 473 := by decide +kernel
theorem D_W_law_473 : decode code 473 = .ok (.invokevirtual 42, 3) ∧ 473 + 3 = 476 := by decide +kernel
theorem D_W_law_476 : decode code 476 = .ok (.if_icmp .eq 1023, 3) ∧ ((476 : Nat) : Int) + 1023 = ((1499 : Nat) : Int) ∧ 476 + 3 = 479 := by decide +kernel
theorem D_W_law_479 : decode code 479 = .ok (.iconst 0, 1) ∧ 479 + 1 = 480 := by decide +kernel
theorem D_W_law_481 : decode code 481 = .ok (.aload_n 1, 1) ∧ 481 + 1 = 482 := by decide +kernel
theorem D_W_law_482 : decode code 482 = .ok (.aload_n 0, 1) ∧ 482 + 1 = 483 := by decide +kernel
theorem D_W_law_483 : decode code 483 = .ok (.iload_n 3, 1) ∧ 483 + 1 = 484 := by decide +kernel
theorem D_W_law_484 : decode code 484 = .ok (.iconst 1, 1) ∧ 484 + 1 = 485 := by decide +kernel
theorem D_W_law_485 : decode code 485 = .ok (.iadd, 1) ∧ 485 + 1 = 486 := by decide +kernel
theorem D_W_law_486 : decode code 486 = .ok (.iaload, 1) ∧ 486 + 1 = 487 := by decide +kernel
theorem D_W_law_487 : decode code 487 = .ok (.aload_n 0, 1) ∧ 487 + 1 = 488 := by decide +kernel
theorem D_W_law_488 : decode code 488 = .ok (.iload_n 3, 1) ∧ 488 + 1 = 489 := by decide +kernel
theorem D_W_law_489 : decode code 489 = .ok (.iconst 2, 1) ∧ 489 + 1 = 490 := by decide +kernel
theorem D_W_law_490 : decode code 490 = .ok (.iadd, 1) ∧ 490 + 1 = 491 := by decide +kernel
theorem D_W_law_491 : decode code 491 = .ok (.iaload, 1) ∧ 491 + 1 = 492 := by decide +kernel
theorem D_W_law_492 : decode code 492 = .ok (.invokevirtual 43, 3) ∧ 492 + 3 = 495 := by decide +kernel
theorem D_W_law_495 : decode code 495 = .ok (.aload_n 2, 1) ∧ 495 + 1 = 496 := by decide +kernel
theorem D_W_law_496 : decode code 496 = .ok (.aload_n 0, 1) ∧ 496 + 1 = 497 := by decide +kernel
theorem D_W_law_497 : decode code 497 = .ok (.iload_n 3, 1) ∧ 497 + 1 = 498 := by decide +kernel
theorem D_W_law_498 : decode code 498 = .ok (.iconst 1, 1) ∧ 498 + 1 = 499 := by decide +kernel
theorem D_W_law_499 : decode code 499 = .ok (.iadd, 1) ∧ 499 + 1 = 500 := by decide +kernel
theorem D_W_law_500 : decode code 500 = .ok (.iaload, 1) ∧ 500 + 1 = 501 := by decide +kernel
theorem D_W_law_501 : decode code 501 = .ok (.aload_n 0, 1) ∧ 501 + 1 = 502 := by decide +kernel
theorem D_W_law_502 : decode code 502 = .ok (.iload_n 3, 1) ∧ 502 + 1 = 503 := by decide +kernel
theorem D_W_law_503 : decode code 503 = .ok (.iconst 2, 1) ∧ 503 + 1 = 504 := by decide +kernel
theorem D_W_law_504 : decode code 504 = .ok (.iadd, 1) ∧ 504 + 1 = 505 := by decide +kernel
theorem D_W_law_505 : decode code 505 = .ok (.iaload, 1) ∧ 505 + 1 = 506 := by decide +kernel
theorem D_W_law_506 : decode code 506 = .ok (.invokevirtual 46, 3) ∧ 506 + 3 = 509 := by decide +kernel
theorem D_W_law_509 : decode code 509 = .ok (.if_icmp .eq 990, 3) ∧ ((509 : Nat) : Int) + 990 = ((1499 : Nat) : Int) ∧ 509 + 3 = 512 := by decide +kernel
theorem D_W_law_512 : decode code 512 = .ok (.iconst 0, 1) ∧ 512 + 1 = 513 := by decide +kernel
theorem D_W_law_514 : decode code 514 = .ok (.aload_n 1, 1) ∧ 514 + 1 = 515 := by decide +kernel
theorem D_W_law_515 : decode code 515 = .ok (.aload_n 0, 1) ∧ 515 + 1 = 516 := by decide +kernel
theorem D_W_law_516 : decode code 516 = .ok (.iload_n 3, 1) ∧ 516 + 1 = 517 := by decide +kernel
theorem D_W_law_517 : decode code 517 = .ok (.iconst 1, 1) ∧ 517 + 1 = 518 := by decide +kernel
theorem D_W_law_518 : decode code 518 = .ok (.iadd, 1) ∧ 518 + 1 = 519 := by decide +kernel
theorem D_W_law_519 : decode code 519 = .ok (.iaload, 1) ∧ 519 + 1 = 520 := by decide +kernel
theorem D_W_law_520 : decode code 520 = .ok (.aload_n 0, 1) ∧ 520 + 1 = 521 := by decide +kernel
theorem D_W_law_521 : decode code 521 = .ok (.iload_n 3, 1) ∧ 521 + 1 = 522 := by decide +kernel
theorem D_W_law_522 : decode code 522 = .ok (.iconst 2, 1) ∧ 522 + 1 = 523 := by decide +kernel
theorem D_W_law_523 : decode code 523 = .ok (.iadd, 1) ∧ 523 + 1 = 524 := by decide +kernel
theorem D_W_law_524 : decode code 524 = .ok (.iaload, 1) ∧ 524 + 1 = 525 := by decide +kernel
theorem D_W_law_525 : decode code 525 = .ok (.invokevirtual 47, 3) ∧ 525 + 3 = 528 := by decide +kernel
theorem D_W_law_528 : decode code 528 = .ok (.aload_n 2, 1) ∧ 528 + 1 = 529 := by decide +kernel
theorem D_W_law_529 : decode code 529 = .ok (.aload_n 0, 1) ∧ 529 + 1 = 530 := by decide +kernel
theorem D_W_law_530 : decode code 530 = .ok (.iload_n 3, 1) ∧ 530 + 1 = 531 := by decide +kernel
theorem D_W_law_531 : decode code 531 = .ok (.iconst 1, 1) ∧ 531 + 1 = 532 := by decide +kernel
theorem D_W_law_532 : decode code 532 = .ok (.iadd, 1) ∧ 532 + 1 = 533 := by decide +kernel
theorem D_W_law_533 : decode code 533 = .ok (.iaload, 1) ∧ 533 + 1 = 534 := by decide +kernel
theorem D_W_law_534 : decode code 534 = .ok (.aload_n 0, 1) ∧ 534 + 1 = 535 := by decide +kernel
theorem D_W_law_535 : decode code 535 = .ok (.iload_n 3, 1) ∧ 535 + 1 = 536 := by decide +kernel
theorem D_W_law_536 : decode code 536 = .ok (.iconst 2, 1) ∧ 536 + 1 = 537 := by decide +kernel
theorem D_W_law_537 : decode code 537 = .ok (.iadd, 1) ∧ 537 + 1 = 538 := by decide +kernel
theorem D_W_law_538 : decode code 538 = .ok (.iaload, 1) ∧ 538 + 1 = 539 := by decide +kernel
theorem D_W_law_539 : decode code 539 = .ok (.invokevirtual 50, 3) ∧ 539 + 3 = 542 := by decide +kernel
theorem D_W_law_542 : decode code 542 = .ok (.if_icmp .eq 957, 3) ∧ ((542 : Nat) : Int) + 957 = ((1499 : Nat) : Int) ∧ 542 + 3 = 545 := by decide +kernel
theorem D_W_law_545 : decode code 545 = .ok (.iconst 0, 1) ∧ 545 + 1 = 546 := by decide +kernel
theorem D_W_law_547 : decode code 547 = .ok (.aload_n 1, 1) ∧ 547 + 1 = 548 := by decide +kernel
theorem D_W_law_548 : decode code 548 = .ok (.aload_n 0, 1) ∧ 548 + 1 = 549 := by decide +kernel
theorem D_W_law_549 : decode code 549 = .ok (.iload_n 3, 1) ∧ 549 + 1 = 550 := by decide +kernel
theorem D_W_law_550 : decode code 550 = .ok (.iconst 1, 1) ∧ 550 + 1 = 551 := by decide +kernel
theorem D_W_law_551 : decode code 551 = .ok (.iadd, 1) ∧ 551 + 1 = 552 := by decide +kernel
theorem D_W_law_552 : decode code 552 = .ok (.iaload, 1) ∧ 552 + 1 = 553 := by decide +kernel
theorem D_W_law_553 : decode code 553 = .ok (.invokevirtual 51, 3) ∧ 553 + 3 = 556 := by decide +kernel
theorem D_W_law_556 : decode code 556 = .ok (.aload_n 2, 1) ∧ 556 + 1 = 557 := by decide +kernel
theorem D_W_law_557 : decode code 557 = .ok (.aload_n 0, 1) ∧ 557 + 1 = 558 := by decide +kernel
theorem D_W_law_558 : decode code 558 = .ok (.iload_n 3, 1) ∧ 558 + 1 = 559 := by decide +kernel
theorem D_W_law_559 : decode code 559 = .ok (.iconst 1, 1) ∧ 559 + 1 = 560 := by decide +kernel
theorem D_W_law_560 : decode code 560 = .ok (.iadd, 1) ∧ 560 + 1 = 561 := by decide +kernel
theorem D_W_law_561 : decode code 561 = .ok (.iaload, 1) ∧ 561 + 1 = 562 := by decide +kernel
theorem D_W_law_562 : decode code 562 = .ok (.invokevirtual 55, 3) ∧ 562 + 3 = 565 := by decide +kernel
theorem D_W_law_565 : decode code 565 = .ok (.if_icmp .eq 934, 3) ∧ ((565 : Nat) : Int) + 934 = ((1499 : Nat) : Int) ∧ 565 + 3 = 568 := by decide +kernel
theorem D_W_law_568 : decode code 568 = .ok (.iconst 0, 1) ∧ 568 + 1 = 569 := by decide +kernel
theorem D_W_law_570 : decode code 570 = .ok (.aload_n 1, 1) ∧ 570 + 1 = 571 := by decide +kernel
theorem D_W_law_571 : decode code 571 = .ok (.aload_n 0, 1) ∧ 571 + 1 = 572 := by decide +kernel
theorem D_W_law_572 : decode code 572 = .ok (.iload_n 3, 1) ∧ 572 + 1 = 573 := by decide +kernel
theorem D_W_law_573 : decode code 573 = .ok (.iconst 1, 1) ∧ 573 + 1 = 574 := by decide +kernel
theorem D_W_law_574 : decode code 574 = .ok (.iadd, 1) ∧ 574 + 1 = 575 := by decide +kernel
theorem D_W_law_575 : decode code 575 = .ok (.iaload, 1) ∧ 575 + 1 = 576 := by decide +kernel
theorem D_W_law_576 : decode code 576 = .ok (.invokevirtual 56, 3) ∧ 576 + 3 = 579 := by decide +kernel
theorem D_W_law_579 : decode code 579 = .ok (.aload_n 2, 1) ∧ 579 + 1 = 580 := by decide +kernel
theorem D_W_law_580 : decode code 580 = .ok (.aload_n 0, 1) ∧ 580 + 1 = 581 := by decide +kernel
theorem D_W_law_581 : decode code 581 = .ok (.iload_n 3, 1) ∧ 581 + 1 = 582 := by decide +kernel
theorem D_W_law_582 : decode code 582 = .ok (.iconst 1, 1) ∧ 582 + 1 = 583 := by decide +kernel
theorem D_W_law_583 : decode code 583 = .ok (.iadd, 1) ∧ 583 + 1 = 584 := by decide +kernel
theorem D_W_law_584 : decode code 584 = .ok (.iaload, 1) ∧ 584 + 1 = 585 := by decide +kernel
theorem D_W_law_585 : decode code 585 = .ok (.invokevirtual 59, 3) ∧ 585 + 3 = 588 := by decide +kernel
theorem D_W_law_588 : decode code 588 = .ok (.if_icmp .eq 911, 3) ∧ ((588 : Nat) : Int) + 911 = ((1499 : Nat) : Int) ∧ 588 + 3 = 591 := by decide +kernel
theorem D_W_law_591 : decode code 591 = .ok (.iconst 0, 1) ∧ 591 + 1 = 592 := by decide +kernel
theorem D_W_law_593 : decode code 593 = .ok (.aload_n 1, 1) ∧ 593 + 1 = 594 := by decide +kernel
theorem D_W_law_594 : decode code 594 = .ok (.aload_n 0, 1) ∧ 594 + 1 = 595 := by decide +kernel
theorem D_W_law_595 : decode code 595 = .ok (.iload_n 3, 1) ∧ 595 + 1 = 596 := by decide +kernel
theorem D_W_law_596 : decode code 596 = .ok (.iconst 1, 1) ∧ 596 + 1 = 597 := by decide +kernel
theorem D_W_law_597 : decode code 597 = .ok (.iadd, 1) ∧ 597 + 1 = 598 := by decide +kernel
theorem D_W_law_598 : decode code 598 = .ok (.iaload, 1) ∧ 598 + 1 = 599 := by decide +kernel
theorem D_W_law_599 : decode code 599 = .ok (.invokevirtual 60, 3) ∧ 599 + 3 = 602 := by decide +kernel
theorem D_W_law_602 : decode code 602 = .ok (.aload_n 2, 1) ∧ 602 + 1 = 603 := by decide +kernel
theorem D_W_law_603 : decode code 603 = .ok (.aload_n 0, 1) ∧ 603 + 1 = 604 := by decide +kernel
theorem D_W_law_604 : decode code 604 = .ok (.iload_n 3, 1) ∧ 604 + 1 = 605 := by decide +kernel
theorem D_W_law_605 : decode code 605 = .ok (.iconst 1, 1) ∧ 605 + 1 = 606 := by decide +kernel
theorem D_W_law_606 : decode code 606 = .ok (.iadd, 1) ∧ 606 + 1 = 607 := by decide +kernel
theorem D_W_law_607 : decode code 607 = .ok (.iaload, 1) ∧ 607 + 1 = 608 := by decide +kernel
theorem D_W_law_608 : decode code 608 = .ok (.invokevirtual 63, 3) ∧ 608 + 3 = 611 := by decide +kernel
theorem D_W_law_611 : decode code 611 = .ok (.if_icmp .eq 888, 3) ∧ ((611 : Nat) : Int) + 888 = ((1499 : Nat) : Int) ∧ 611 + 3 = 614 := by decide +kernel
theorem D_W_law_614 : decode code 614 = .ok (.iconst 0, 1) ∧ 614 + 1 = 615 := by decide +kernel
theorem D_W_law_616 : decode code 616 = .ok (.aload_n 1, 1) ∧ 616 + 1 = 617 := by decide +kernel
theorem D_W_law_617 : decode code 617 = .ok (.aload_n 0, 1) ∧ 617 + 1 = 618 := by decide +kernel
theorem D_W_law_618 : decode code 618 = .ok (.iload_n 3, 1) ∧ 618 + 1 = 619 := by decide +kernel
theorem D_W_law_619 : decode code 619 = .ok (.iconst 1, 1) ∧ 619 + 1 = 620 := by decide +kernel
theorem D_W_law_620 : decode code 620 = .ok (.iadd, 1) ∧ 620 + 1 = 621 := by decide +kernel
theorem D_W_law_621 : decode code 621 = .ok (.iaload, 1) ∧ 621 + 1 = 622 := by decide +kernel
theorem D_W_law_622 : decode code 622 = .ok (.invokevirtual 64, 3) ∧ 622 + 3 = 625 := by decide +kernel
theorem D_W_law_625 : decode code 625 = .ok (.aload_n 2, 1) ∧ 625 + 1 = 626 := by decide +kernel
theorem D_W_law_626 : decode code 626 = .ok (.aload_n 0, 1) ∧ 626 + 1 = 627 := by decide +kernel
theorem D_W_law_627 : decode code 627 = .ok (.iload_n 3, 1) ∧ 627 + 1 = 628 := by decide +kernel
theorem D_W_law_628 : decode code 628 = .ok (.iconst 1, 1) ∧ 628 + 1 = 629 := by decide +kernel
theorem D_W_law_629 : decode code 629 = .ok (.iadd, 1) ∧ 629 + 1 = 630 := by decide +kernel
theorem D_W_law_630 : decode code 630 = .ok (.iaload, 1) ∧ 630 + 1 = 631 := by decide +kernel
theorem D_W_law_631 : decode code 631 = .ok (.invokevirtual 67, 3) ∧ 631 + 3 = 634 := by decide +kernel
theorem D_W_law_634 : decode code 634 = .ok (.if_icmp .eq 865, 3) ∧ ((634 : Nat) : Int) + 865 = ((1499 : Nat) : Int) ∧ 634 + 3 = 637 := by decide +kernel
theorem D_W_law_637 : decode code 637 = .ok (.iconst 0, 1) ∧ 637 + 1 = 638 := by decide +kernel
theorem D_W_law_639 : decode code 639 = .ok (.aload_n 1, 1) ∧ 639 + 1 = 640 := by decide +kernel
theorem D_W_law_640 : decode code 640 = .ok (.aload_n 0, 1) ∧ 640 + 1 = 641 := by decide +kernel
theorem D_W_law_641 : decode code 641 = .ok (.iload_n 3, 1) ∧ 641 + 1 = 642 := by decide +kernel
theorem D_W_law_642 : decode code 642 = .ok (.iconst 1, 1) ∧ 642 + 1 = 643 := by decide +kernel
theorem D_W_law_643 : decode code 643 = .ok (.iadd, 1) ∧ 643 + 1 = 644 := by decide +kernel
theorem D_W_law_644 : decode code 644 = .ok (.iaload, 1) ∧ 644 + 1 = 645 := by decide +kernel
