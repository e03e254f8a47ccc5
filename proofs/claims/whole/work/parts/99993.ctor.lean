theorem dX12_init_0 : decode cX12_init 0 = .ok (.aload_n 0, 1) := by decide +kernel
theorem dX12_init_1 : decode cX12_init 1 = .ok (.invokespecial 1, 3) := by decide +kernel
theorem dX12_init_4 : decode cX12_init 4 = .ok (.aload_n 0, 1) := by decide +kernel
theorem dX12_init_5 : decode cX12_init 5 = .ok (.bipush 10, 2) := by decide +kernel
theorem dX12_init_7 : decode cX12_init 7 = .ok (.newarray .int, 2) := by decide +kernel
theorem dX12_init_9 : decode cX12_init 9 = .ok (.putfield 7, 3) := by decide +kernel
theorem dX12_init_12 : decode cX12_init 12 = .ok (.aload_n 0, 1) := by decide +kernel
theorem dX12_init_13 : decode cX12_init 13 = .ok (.bipush 10, 2) := by decide +kernel
theorem dX12_init_15 : decode cX12_init 15 = .ok (.newarray .int, 2) := by decide +kernel
theorem dX12_init_17 : decode cX12_init 17 = .ok (.putfield 13, 3) := by decide +kernel
theorem dX12_init_20 : decode cX12_init 20 = .ok (.aload_n 0, 1) := by decide +kernel
theorem dX12_init_21 : decode cX12_init 21 = .ok (.bipush 10, 2) := by decide +kernel
theorem dX12_init_23 : decode cX12_init 23 = .ok (.newarray .int, 2) := by decide +kernel
theorem dX12_init_25 : decode cX12_init 25 = .ok (.putfield 16, 3) := by decide +kernel
theorem dX12_init_28 : decode cX12_init 28 = .ok (.aload_n 0, 1) := by decide +kernel
theorem dX12_init_29 : decode cX12_init 29 = .ok (.bipush 100, 2) := by decide +kernel
theorem dX12_init_31 : decode cX12_init 31 = .ok (.newarray .boolean, 2) := by decide +kernel
theorem dX12_init_33 : decode cX12_init 33 = .ok (.putfield 19, 3) := by decide +kernel
theorem dX12_init_36 : decode cX12_init 36 = .ok (.aload_n 0, 1) := by decide +kernel
theorem dX12_init_37 : decode cX12_init 37 = .ok (.bipush 10, 2) := by decide +kernel
theorem dX12_init_39 : decode cX12_init 39 = .ok (.newarray .int, 2) := by decide +kernel
theorem dX12_init_41 : decode cX12_init 41 = .ok (.putfield 23, 3) := by decide +kernel
theorem dX12_init_44 : decode cX12_init 44 = .ok (.aload_n 0, 1) := by decide +kernel
theorem dX12_init_45 : decode cX12_init 45 = .ok (.bipush 10, 2) := by decide +kernel
theorem dX12_init_47 : decode cX12_init 47 = .ok (.newarray .int, 2) := by decide +kernel
theorem dX12_init_49 : decode cX12_init 49 = .ok (.putfield 26, 3) := by decide +kernel
theorem dX12_init_52 : decode cX12_init 52 = .ok (.aload_n 0, 1) := by decide +kernel
theorem dX12_init_53 : decode cX12_init 53 = .ok (.bipush 10, 2) := by decide +kernel
theorem dX12_init_55 : decode cX12_init 55 = .ok (.newarray .int, 2) := by decide +kernel
theorem dX12_init_57 : decode cX12_init 57 = .ok (.putfield 29, 3) := by decide +kernel
theorem dX12_init_60 : decode cX12_init 60 = .ok (.aload_n 0, 1) := by decide +kernel
theorem dX12_init_61 : decode cX12_init 61 = .ok (.bipush 10, 2) := by decide +kernel
theorem dX12_init_63 : decode cX12_init 63 = .ok (.newarray .int, 2) := by decide +kernel
theorem dX12_init_65 : decode cX12_init 65 = .ok (.putfield 32, 3) := by decide +kernel
theorem dX12_init_68 : decode cX12_init 68 = .ok (.aload_n 0, 1) := by decide +kernel
theorem dX12_init_69 : decode cX12_init 69 = .ok (.bipush 10, 2) := by decide +kernel
theorem dX12_init_71 : decode cX12_init 71 = .ok (.newarray .boolean, 2) := by decide +kernel
theorem dX12_init_73 : decode cX12_init 73 = .ok (.putfield 35, 3) := by decide +kernel
theorem dX12_init_76 : decode cX12_init 76 = .ok (.aload_n 0, 1) := by decide +kernel
theorem dX12_init_77 : decode cX12_init 77 = .ok (.bipush 60, 2) := by decide +kernel
theorem dX12_init_79 : decode cX12_init 79 = .ok (.newarray .int, 2) := by decide +kernel
theorem dX12_init_81 : decode cX12_init 81 = .ok (.putfield 38, 3) := by decide +kernel
theorem dX12_init_84 : decode cX12_init 84 = .ok (.aload_n 0, 1) := by decide +kernel
theorem dX12_init_85 : decode cX12_init 85 = .ok (.bipush 10, 2) := by decide +kernel
theorem dX12_init_87 : decode cX12_init 87 = .ok (.newarray .int, 2) := by decide +kernel
theorem dX12_init_89 : decode cX12_init 89 = .ok (.putfield 41, 3) := by decide +kernel
theorem dX12_init_92 : decode cX12_init 92 = .ok (.aload_n 0, 1) := by decide +kernel
theorem dX12_init_93 : decode cX12_init 93 = .ok (.bipush 120, 2) := by decide +kernel
theorem dX12_init_95 : decode cX12_init 95 = .ok (.newarray .int, 2) := by decide +kernel
theorem dX12_init_97 : decode cX12_init 97 = .ok (.putfield 44, 3) := by decide +kernel
theorem dX12_init_100 : decode cX12_init 100 = .ok (.aload_n 0, 1) := by decide +kernel
theorem dX12_init_101 : decode cX12_init 101 = .ok (.bipush 16, 2) := by decide +kernel
theorem dX12_init_103 : decode cX12_init 103 = .ok (.newarray .int, 2) := by decide +kernel
theorem dX12_init_105 : decode cX12_init 105 = .ok (.putfield 47, 3) := by decide +kernel
theorem dX12_init_108 : decode cX12_init 108 = .ok (.aload_n 0, 1) := by decide +kernel
theorem dX12_init_109 : decode cX12_init 109 = .ok (.bipush 16, 2) := by decide +kernel
theorem dX12_init_111 : decode cX12_init 111 = .ok (.newarray .int, 2) := by decide +kernel
theorem dX12_init_113 : decode cX12_init 113 = .ok (.putfield 50, 3) := by decide +kernel
theorem dX12_init_116 : decode cX12_init 116 = .ok (.aload_n 0, 1) := by decide +kernel
theorem dX12_init_117 : decode cX12_init 117 = .ok (.bipush 16, 2) := by decide +kernel
theorem dX12_init_119 : decode cX12_init 119 = .ok (.newarray .int, 2) := by decide +kernel
theorem dX12_init_121 : decode cX12_init 121 = .ok (.putfield 53, 3) := by decide +kernel
theorem dX12_init_124 : decode cX12_init 124 = .ok (.aload_n 0, 1) := by decide +kernel
theorem dX12_init_125 : decode cX12_init 125 = .ok (.bipush 16, 2) := by decide +kernel
theorem dX12_init_127 : decode cX12_init 127 = .ok (.newarray .int, 2) := by decide +kernel
theorem dX12_init_129 : decode cX12_init 129 = .ok (.putfield 56, 3) := by decide +kernel
theorem dX12_init_132 : decode cX12_init 132 = .ok (.aload_n 0, 1) := by decide +kernel
theorem dX12_init_133 : decode cX12_init 133 = .ok (.bipush 16, 2) := by decide +kernel
theorem dX12_init_135 : decode cX12_init 135 = .ok (.newarray .int, 2) := by decide +kernel
theorem dX12_init_137 : decode cX12_init 137 = .ok (.putfield 59, 3) := by decide +kernel
theorem dX12_init_140 : decode cX12_init 140 = .ok (.aload_n 0, 1) := by decide +kernel
theorem dX12_init_141 : decode cX12_init 141 = .ok (.bipush 16, 2) := by decide +kernel
theorem dX12_init_143 : decode cX12_init 143 = .ok (.newarray .int, 2) := by decide +kernel
theorem dX12_init_145 : decode cX12_init 145 = .ok (.putfield 62, 3) := by decide +kernel
theorem dX12_init_148 : decode cX12_init 148 = .ok (.aload_n 0, 1) := by decide +kernel
theorem dX12_init_149 : decode cX12_init 149 = .ok (.iconst 2, 1) := by decide +kernel
theorem dX12_init_150 : decode cX12_init 150 = .ok (.newarray .int, 2) := by decide +kernel
theorem dX12_init_152 : decode cX12_init 152 = .ok (.putfield 65, 3) := by decide +kernel
theorem dX12_init_155 : decode cX12_init 155 = .ok (.aload_n 0, 1) := by decide +kernel
theorem dX12_init_156 : decode cX12_init 156 = .ok (.bipush 20, 2) := by decide +kernel
theorem dX12_init_158 : decode cX12_init 158 = .ok (.newarray .int, 2) := by decide +kernel
theorem dX12_init_160 : decode cX12_init 160 = .ok (.putfield 68, 3) := by decide +kernel
theorem dX12_init_163 : decode cX12_init 163 = .ok (.aload_n 0, 1) := by decide +kernel
theorem dX12_init_164 : decode cX12_init 164 = .ok (.bipush 12, 2) := by decide +kernel
theorem dX12_init_166 : decode cX12_init 166 = .ok (.newarray .boolean, 2) := by decide +kernel
theorem dX12_init_168 : decode cX12_init 168 = .ok (.putfield 71, 3) := by decide +kernel
theorem dX12_init_171 : decode cX12_init 171 = .ok (.aload_n 0, 1) := by decide +kernel
theorem dX12_init_172 : decode cX12_init 172 = .ok (.bipush 10, 2) := by decide +kernel
theorem dX12_init_174 : decode cX12_init 174 = .ok (.newarray .boolean, 2) := by decide +kernel
theorem dX12_init_176 : decode cX12_init 176 = .ok (.putfield 74, 3) := by decide +kernel
theorem dX12_init_179 : decode cX12_init 179 = .ok (.aload_n 0, 1) := by decide +kernel
theorem dX12_init_180 : decode cX12_init 180 = .ok (.bipush 10, 2) := by decide +kernel
theorem dX12_init_182 : decode cX12_init 182 = .ok (.newarray .int, 2) := by decide +kernel
theorem dX12_init_184 : decode cX12_init 184 = .ok (.putfield 77, 3) := by decide +kernel
theorem dX12_init_187 : decode cX12_init 187 = .ok (.aload_n 0, 1) := by decide +kernel
theorem dX12_init_188 : decode cX12_init 188 = .ok (.iconst 2, 1) := by decide +kernel
theorem dX12_init_189 : decode cX12_init 189 = .ok (.newarray .int, 2) := by decide +kernel
theorem dX12_init_191 : decode cX12_init 191 = .ok (.putfield 80, 3) := by decide +kernel
theorem dX12_init_194 : decode cX12_init 194 = .ok (.aload_n 0, 1) := by decide +kernel
theorem dX12_init_195 : decode cX12_init 195 = .ok (.bipush 20, 2) := by decide +kernel
theorem dX12_init_197 : decode cX12_init 197 = .ok (.newarray .int, 2) := by decide +kernel
theorem dX12_init_199 : decode cX12_init 199 = .ok (.putfield 83, 3) := by decide +kernel
theorem dX12_init_202 : decode cX12_init 202 = .ok (.aload_n 0, 1) := by decide +kernel
theorem dX12_init_203 : decode cX12_init 203 = .ok (.iconst (-1), 1) := by decide +kernel
theorem dX12_init_204 : decode cX12_init 204 = .ok (.putfield 86, 3) := by decide +kernel
theorem dX12_init_207 : decode cX12_init 207 = .ok (.aload_n 0, 1) := by decide +kernel
theorem dX12_init_208 : decode cX12_init 208 = .ok (.iconst 2, 1) := by decide +kernel
theorem dX12_init_209 : decode cX12_init 209 = .ok (.newarray .int, 2) := by decide +kernel
theorem dX12_init_211 : decode cX12_init 211 = .ok (.putfield 90, 3) := by decide +kernel
theorem dX12_init_214 : decode cX12_init 214 = .ok (.aload_n 0, 1) := by decide +kernel
theorem dX12_init_215 : decode cX12_init 215 = .ok (.iconst 2, 1) := by decide +kernel
theorem dX12_init_216 : decode cX12_init 216 = .ok (.newarray .int, 2) := by decide +kernel
theorem dX12_init_218 : decode cX12_init 218 = .ok (.putfield 93, 3) := by decide +kernel
theorem dX12_init_221 : decode cX12_init 221 = .ok (.aload_n 0, 1) := by decide +kernel
theorem dX12_init_222 : decode cX12_init 222 = .ok (.iconst 2, 1) := by decide +kernel
theorem dX12_init_223 : decode cX12_init 223 = .ok (.newarray .int, 2) := by decide +kernel
theorem dX12_init_225 : decode cX12_init 225 = .ok (.putfield 96, 3) := by decide +kernel
theorem dX12_init_228 : decode cX12_init 228 = .ok (.aload_n 0, 1) := by decide +kernel
theorem dX12_init_229 : decode cX12_init 229 = .ok (.iconst 2, 1) := by decide +kernel
theorem dX12_init_230 : decode cX12_init 230 = .ok (.newarray .int, 2) := by decide +kernel
theorem dX12_init_232 : decode cX12_init 232 = .ok (.putfield 99, 3) := by decide +kernel
theorem dX12_init_235 : decode cX12_init 235 = .ok (.aload_n 0, 1) := by decide +kernel
theorem dX12_init_236 : decode cX12_init 236 = .ok (.iconst 2, 1) := by decide +kernel
theorem dX12_init_237 : decode cX12_init 237 = .ok (.newarray .int, 2) := by decide +kernel
theorem dX12_init_239 : decode cX12_init 239 = .ok (.putfield 102, 3) := by decide +kernel
theorem dX12_init_242 : decode cX12_init 242 = .ok (.aload_n 0, 1) := by decide +kernel
theorem dX12_init_243 : decode cX12_init 243 = .ok (.iconst 2, 1) := by decide +kernel
theorem dX12_init_244 : decode cX12_init 244 = .ok (.newarray .int, 2) := by decide +kernel
theorem dX12_init_246 : decode cX12_init 246 = .ok (.putfield 105, 3) := by decide +kernel
theorem dX12_init_249 : decode cX12_init 249 = .ok (.aload_n 0, 1) := by decide +kernel
theorem dX12_init_250 : decode cX12_init 250 = .ok (.bipush 120, 2) := by decide +kernel
theorem dX12_init_252 : decode cX12_init 252 = .ok (.newarray .int, 2) := by decide +kernel
theorem dX12_init_254 : decode cX12_init 254 = .ok (.putfield 108, 3) := by decide +kernel
theorem dX12_init_257 : decode cX12_init 257 = .ok (.aload_n 0, 1) := by decide +kernel
theorem dX12_init_258 : decode cX12_init 258 = .ok (.bipush 120, 2) := by decide +kernel
theorem dX12_init_260 : decode cX12_init 260 = .ok (.newarray .int, 2) := by decide +kernel
theorem dX12_init_262 : decode cX12_init 262 = .ok (.putfield 111, 3) := by decide +kernel
theorem dX12_init_265 : decode cX12_init 265 = .ok (.aload_n 0, 1) := by decide +kernel
theorem dX12_init_266 : decode cX12_init 266 = .ok (.bipush 120, 2) := by decide +kernel
theorem dX12_init_268 : decode cX12_init 268 = .ok (.newarray .int, 2) := by decide +kernel
theorem dX12_init_270 : decode cX12_init 270 = .ok (.putfield 114, 3) := by decide +kernel
theorem dX12_init_273 : decode cX12_init 273 = .ok (.aload_n 0, 1) := by decide +kernel
theorem dX12_init_274 : decode cX12_init 274 = .ok (.bipush 120, 2) := by decide +kernel
theorem dX12_init_276 : decode cX12_init 276 = .ok (.newarray .int, 2) := by decide +kernel
theorem dX12_init_278 : decode cX12_init 278 = .ok (.putfield 117, 3) := by decide +kernel
theorem dX12_init_281 : decode cX12_init 281 = .ok (.aload_n 0, 1) := by decide +kernel
theorem dX12_init_282 : decode cX12_init 282 = .ok (.bipush 120, 2) := by decide +kernel
theorem dX12_init_284 : decode cX12_init 284 = .ok (.newarray .int, 2) := by decide +kernel
theorem dX12_init_286 : decode cX12_init 286 = .ok (.putfield 120, 3) := by decide +kernel
theorem dX12_init_289 : decode cX12_init 289 = .ok (.aload_n 0, 1) := by decide +kernel
theorem dX12_init_290 : decode cX12_init 290 = .ok (.bipush 120, 2) := by decide +kernel
theorem dX12_init_292 : decode cX12_init 292 = .ok (.newarray .boolean, 2) := by decide +kernel
theorem dX12_init_294 : decode cX12_init 294 = .ok (.putfield 123, 3) := by decide +kernel
theorem dX12_init_297 : decode cX12_init 297 = .ok (.aload_n 0, 1) := by decide +kernel
theorem dX12_init_298 : decode cX12_init 298 = .ok (.bipush 24, 2) := by decide +kernel
theorem dX12_init_300 : decode cX12_init 300 = .ok (.newarray .int, 2) := by decide +kernel
theorem dX12_init_302 : decode cX12_init 302 = .ok (.putfield 126, 3) := by decide +kernel
theorem dX12_init_305 : decode cX12_init 305 = .ok (.aload_n 0, 1) := by decide +kernel
theorem dX12_init_306 : decode cX12_init 306 = .ok (.bipush 10, 2) := by decide +kernel
theorem dX12_init_308 : decode cX12_init 308 = .ok (.newarray .int, 2) := by decide +kernel
theorem dX12_init_310 : decode cX12_init 310 = .ok (.putfield 129, 3) := by decide +kernel
theorem dX12_init_313 : decode cX12_init 313 = .ok (.aload_n 0, 1) := by decide +kernel
theorem dX12_init_314 : decode cX12_init 314 = .ok (.bipush 10, 2) := by decide +kernel
theorem dX12_init_316 : decode cX12_init 316 = .ok (.newarray .int, 2) := by decide +kernel
theorem dX12_init_318 : decode cX12_init 318 = .ok (.putfield 132, 3) := by decide +kernel
theorem dX12_init_321 : decode cX12_init 321 = .ok (.aload_n 0, 1) := by decide +kernel
theorem dX12_init_322 : decode cX12_init 322 = .ok (.bipush 10, 2) := by decide +kernel
theorem dX12_init_324 : decode cX12_init 324 = .ok (.newarray .int, 2) := by decide +kernel
theorem dX12_init_326 : decode cX12_init 326 = .ok (.putfield 135, 3) := by decide +kernel
theorem dX12_init_329 : decode cX12_init 329 = .ok (.aload_n 0, 1) := by decide +kernel
theorem dX12_init_330 : decode cX12_init 330 = .ok (.sipush 200, 3) := by decide +kernel
theorem dX12_init_333 : decode cX12_init 333 = .ok (.newarray .int, 2) := by decide +kernel
theorem dX12_init_335 : decode cX12_init 335 = .ok (.putfield 138, 3) := by decide +kernel
theorem dX12_init_338 : decode cX12_init 338 = .ok (.aload_n 0, 1) := by decide +kernel
theorem dX12_init_339 : decode cX12_init 339 = .ok (.bipush 10, 2) := by decide +kernel
theorem dX12_init_341 : decode cX12_init 341 = .ok (.newarray .int, 2) := by decide +kernel
theorem dX12_init_343 : decode cX12_init 343 = .ok (.putfield 141, 3) := by decide +kernel
theorem dX12_init_346 : decode cX12_init 346 = .ok (.aload_n 0, 1) := by decide +kernel
theorem dX12_init_347 : decode cX12_init 347 = .ok (.sipush 200, 3) := by decide +kernel
theorem dX12_init_350 : decode cX12_init 350 = .ok (.newarray .int, 2) := by decide +kernel
theorem dX12_init_352 : decode cX12_init 352 = .ok (.putfield 144, 3) := by decide +kernel
theorem dX12_init_355 : decode cX12_init 355 = .ok (.aload_n 0, 1) := by decide +kernel
theorem dX12_init_356 : decode cX12_init 356 = .ok (.sipush 200, 3) := by decide +kernel
theorem dX12_init_359 : decode cX12_init 359 = .ok (.newarray .int, 2) := by decide +kernel
theorem dX12_init_361 : decode cX12_init 361 = .ok (.putfield 147, 3) := by decide +kernel
theorem dX12_init_364 : decode cX12_init 364 = .ok (.aload_n 0, 1) := by decide +kernel
theorem dX12_init_365 : decode cX12_init 365 = .ok (.sipush 200, 3) := by decide +kernel
theorem dX12_init_368 : decode cX12_init 368 = .ok (.newarray .boolean, 2) := by decide +kernel
theorem dX12_init_370 : decode cX12_init 370 = .ok (.putfield 150, 3) := by decide +kernel
theorem dX12_init_373 : decode cX12_init 373 = .ok (.aload_n 0, 1) := by decide +kernel
theorem dX12_init_374 : decode cX12_init 374 = .ok (.getfield 90, 3) := by decide +kernel
theorem dX12_init_377 : decode cX12_init 377 = .ok (.iconst 0, 1) := by decide +kernel
theorem dX12_init_378 : decode cX12_init 378 = .ok (.iconst (-1), 1) := by decide +kernel
theorem dX12_init_379 : decode cX12_init 379 = .ok (.iastore, 1) := by decide +kernel
theorem dX12_init_380 : decode cX12_init 380 = .ok (.aload_n 0, 1) := by decide +kernel
theorem dX12_init_381 : decode cX12_init 381 = .ok (.getfield 90, 3) := by decide +kernel
theorem dX12_init_384 : decode cX12_init 384 = .ok (.iconst 1, 1) := by decide +kernel
theorem dX12_init_385 : decode cX12_init 385 = .ok (.iconst (-1), 1) := by decide +kernel
theorem dX12_init_386 : decode cX12_init 386 = .ok (.iastore, 1) := by decide +kernel
theorem dX12_init_387 : decode cX12_init 387 = .ok (.return_, 1) := by decide +kernel
section CX12
variable {p : Program} {l : Launch} {e : Env} {R : Room} {s : State} {m : MethodId} {args : Array Value} {below : List Frame} {meth : Method} {c : Code} {H : Heap} {locs : List Loc} {slots : Nat} {Q : State → Prop} {w : Wd} {a sz : Nat} {ls : Array Slot} {fs : List Value} {rest : List va_E}
theorem zb_0 (hk : KX p s m meth c w "FloatparadeModel" cX12_init 1) (hl : lv_has ls 1 [(0, .ref a)]) (hc9 : 46 ≤ R.cells) (hs9 : 2138 ≤ R.slots) (hfl : fs.length = 52) (hrl : rest.length = 0) (hI : CI w s a sz 12 fs rest H locs)
    (kk : ∀ H1 locs1 fs1 rest1, fs1 = fs.set 2 (.ref (sz + 0)) → rest1 = rest ++ [dar w 102] → fs1.length = 52 → rest1.length = 1 → CI w s a sz 12 fs1 rest1 H1 locs1 → W p l e R s m args below meth c H1 locs1 1 10 Q (F0 m 12 ls [])) : W p l e R s m args below meth c H locs 0 0 Q (F0 m 4 ls []) := by
  obtain ⟨hx, hb, hml, hown, hkw, hin⟩ := id hk
  refine lv_aload_n hx hb dX12_init_4 rfl (lv_at hl 0 rfl) ?_
  refine W.eq (g2 := F0 m 5 ls [.ref a]) rfl ?_
  refine lv_bipush hx hb (v := i32 10) dX12_init_5 (by decide) ?_
  refine W.eq (g2 := F0 m 7 ls [.int (i32 10), .ref a]) rfl ?_
  refine ct_newa (k2 := 102) (t := 0) (N' := 10) hk hI dX12_init_7 rfl (wat_mem (i := 148) (by decide +kernel)) rfl rfl (fun _ _ => Iff.rfl) (fun _ => rfl) (by decide) (by decide) (Nat.le_of_ble_eq_true rfl) (Nat.le_trans (Nat.le_of_ble_eq_true rfl) hc9) (Nat.le_trans (Nat.le_of_ble_eq_true rfl) hs9) fun H hI => ?_
  rw [hrl]
  refine W.eq (g2 := F0 m 9 ls [.ref (sz + 0), .ref a]) rfl ?_
  refine ct_put (j := 2) hk hI dX12_init_9 (by decide) (by decide) (wat_mem (i := 1331) (by decide +kernel)) (cl_ty (q := 12) (by decide) 2 (by decide)) rfl rfl (by rw [hfl]; decide) rfl fun H locs hI => ?_
  exact W_cs (cells2 := 1) (slots2 := 10) rfl rfl (kk H locs _ _ rfl rfl (by rw [List.length_set]; exact hfl) (by rw [List.length_append, hrl]; rfl) hI)
theorem zb_1 (hk : KX p s m meth c w "FloatparadeModel" cX12_init 1) (hl : lv_has ls 1 [(0, .ref a)]) (hc9 : 46 ≤ R.cells) (hs9 : 2138 ≤ R.slots) (hfl : fs.length = 52) (hrl : rest.length = 1) (hI : CI w s a sz 12 fs rest H locs)
    (kk : ∀ H1 locs1 fs1 rest1, fs1 = fs.set 3 (.ref (sz + 1)) → rest1 = rest ++ [dar w 103] → fs1.length = 52 → rest1.length = 2 → CI w s a sz 12 fs1 rest1 H1 locs1 → W p l e R s m args below meth c H1 locs1 2 20 Q (F0 m 20 ls [])) : W p l e R s m args below meth c H locs 1 10 Q (F0 m 12 ls []) := by
  obtain ⟨hx, hb, hml, hown, hkw, hin⟩ := id hk
  refine lv_aload_n hx hb dX12_init_12 rfl (lv_at hl 0 rfl) ?_
  refine W.eq (g2 := F0 m 13 ls [.ref a]) rfl ?_
  refine lv_bipush hx hb (v := i32 10) dX12_init_13 (by decide) ?_
  refine W.eq (g2 := F0 m 15 ls [.int (i32 10), .ref a]) rfl ?_
  refine ct_newa (k2 := 103) (t := 0) (N' := 10) hk hI dX12_init_15 rfl (wat_mem (i := 148) (by decide +kernel)) rfl rfl (fun _ _ => Iff.rfl) (fun _ => rfl) (by decide) (by decide) (Nat.le_of_ble_eq_true rfl) (Nat.le_trans (Nat.le_of_ble_eq_true rfl) hc9) (Nat.le_trans (Nat.le_of_ble_eq_true rfl) hs9) fun H hI => ?_
  rw [hrl]
  refine W.eq (g2 := F0 m 17 ls [.ref (sz + 1), .ref a]) rfl ?_
  refine ct_put (j := 3) hk hI dX12_init_17 (by decide) (by decide) (wat_mem (i := 1332) (by decide +kernel)) (cl_ty (q := 12) (by decide) 3 (by decide)) rfl rfl (by rw [hfl]; decide) rfl fun H locs hI => ?_
  exact W_cs (cells2 := 2) (slots2 := 20) rfl rfl (kk H locs _ _ rfl rfl (by rw [List.length_set]; exact hfl) (by rw [List.length_append, hrl]; rfl) hI)
theorem zb_2 (hk : KX p s m meth c w "FloatparadeModel" cX12_init 1) (hl : lv_has ls 1 [(0, .ref a)]) (hc9 : 46 ≤ R.cells) (hs9 : 2138 ≤ R.slots) (hfl : fs.length = 52) (hrl : rest.length = 2) (hI : CI w s a sz 12 fs rest H locs)
    (kk : ∀ H1 locs1 fs1 rest1, fs1 = fs.set 4 (.ref (sz + 2)) → rest1 = rest ++ [dar w 104] → fs1.length = 52 → rest1.length = 3 → CI w s a sz 12 fs1 rest1 H1 locs1 → W p l e R s m args below meth c H1 locs1 3 30 Q (F0 m 28 ls [])) : W p l e R s m args below meth c H locs 2 20 Q (F0 m 20 ls []) := by
  obtain ⟨hx, hb, hml, hown, hkw, hin⟩ := id hk
  refine lv_aload_n hx hb dX12_init_20 rfl (lv_at hl 0 rfl) ?_
  refine W.eq (g2 := F0 m 21 ls [.ref a]) rfl ?_
  refine lv_bipush hx hb (v := i32 10) dX12_init_21 (by decide) ?_
  refine W.eq (g2 := F0 m 23 ls [.int (i32 10), .ref a]) rfl ?_
  refine ct_newa (k2 := 104) (t := 0) (N' := 10) hk hI dX12_init_23 rfl (wat_mem (i := 148) (by decide +kernel)) rfl rfl (fun _ _ => Iff.rfl) (fun _ => rfl) (by decide) (by decide) (Nat.le_of_ble_eq_true rfl) (Nat.le_trans (Nat.le_of_ble_eq_true rfl) hc9) (Nat.le_trans (Nat.le_of_ble_eq_true rfl) hs9) fun H hI => ?_
  rw [hrl]
  refine W.eq (g2 := F0 m 25 ls [.ref (sz + 2), .ref a]) rfl ?_
  refine ct_put (j := 4) hk hI dX12_init_25 (by decide) (by decide) (wat_mem (i := 1333) (by decide +kernel)) (cl_ty (q := 12) (by decide) 4 (by decide)) rfl rfl (by rw [hfl]; decide) rfl fun H locs hI => ?_
  exact W_cs (cells2 := 3) (slots2 := 30) rfl rfl (kk H locs _ _ rfl rfl (by rw [List.length_set]; exact hfl) (by rw [List.length_append, hrl]; rfl) hI)
theorem zb_3 (hk : KX p s m meth c w "FloatparadeModel" cX12_init 1) (hl : lv_has ls 1 [(0, .ref a)]) (hc9 : 46 ≤ R.cells) (hs9 : 2138 ≤ R.slots) (hfl : fs.length = 52) (hrl : rest.length = 3) (hI : CI w s a sz 12 fs rest H locs)
    (kk : ∀ H1 locs1 fs1 rest1, fs1 = fs.set 5 (.ref (sz + 3)) → rest1 = rest ++ [dar w 105] → fs1.length = 52 → rest1.length = 4 → CI w s a sz 12 fs1 rest1 H1 locs1 → W p l e R s m args below meth c H1 locs1 4 130 Q (F0 m 36 ls [])) : W p l e R s m args below meth c H locs 3 30 Q (F0 m 28 ls []) := by
  obtain ⟨hx, hb, hml, hown, hkw, hin⟩ := id hk
  refine lv_aload_n hx hb dX12_init_28 rfl (lv_at hl 0 rfl) ?_
  refine W.eq (g2 := F0 m 29 ls [.ref a]) rfl ?_
  refine lv_bipush hx hb (v := i32 100) dX12_init_29 (by decide) ?_
  refine W.eq (g2 := F0 m 31 ls [.int (i32 100), .ref a]) rfl ?_
  refine ct_newa (k2 := 105) (t := 1) (N' := 100) hk hI dX12_init_31 rfl (wat_mem (i := 121) (by decide +kernel)) rfl rfl (fun _ _ => Iff.rfl) (fun _ => rfl) (by decide) (by decide) (Nat.le_of_ble_eq_true rfl) (Nat.le_trans (Nat.le_of_ble_eq_true rfl) hc9) (Nat.le_trans (Nat.le_of_ble_eq_true rfl) hs9) fun H hI => ?_
  rw [hrl]
  refine W.eq (g2 := F0 m 33 ls [.ref (sz + 3), .ref a]) rfl ?_
  refine ct_put (j := 5) hk hI dX12_init_33 (by decide) (by decide) (wat_mem (i := 1334) (by decide +kernel)) (cl_ty (q := 12) (by decide) 5 (by decide)) rfl rfl (by rw [hfl]; decide) rfl fun H locs hI => ?_
  exact W_cs (cells2 := 4) (slots2 := 130) rfl rfl (kk H locs _ _ rfl rfl (by rw [List.length_set]; exact hfl) (by rw [List.length_append, hrl]; rfl) hI)
theorem zb_4 (hk : KX p s m meth c w "FloatparadeModel" cX12_init 1) (hl : lv_has ls 1 [(0, .ref a)]) (hc9 : 46 ≤ R.cells) (hs9 : 2138 ≤ R.slots) (hfl : fs.length = 52) (hrl : rest.length = 4) (hI : CI w s a sz 12 fs rest H locs)
    (kk : ∀ H1 locs1 fs1 rest1, fs1 = fs.set 6 (.ref (sz + 4)) → rest1 = rest ++ [dar w 106] → fs1.length = 52 → rest1.length = 5 → CI w s a sz 12 fs1 rest1 H1 locs1 → W p l e R s m args below meth c H1 locs1 5 140 Q (F0 m 44 ls [])) : W p l e R s m args below meth c H locs 4 130 Q (F0 m 36 ls []) := by
  obtain ⟨hx, hb, hml, hown, hkw, hin⟩ := id hk
  refine lv_aload_n hx hb dX12_init_36 rfl (lv_at hl 0 rfl) ?_
  refine W.eq (g2 := F0 m 37 ls [.ref a]) rfl ?_
  refine lv_bipush hx hb (v := i32 10) dX12_init_37 (by decide) ?_
  refine W.eq (g2 := F0 m 39 ls [.int (i32 10), .ref a]) rfl ?_
  refine ct_newa (k2 := 106) (t := 0) (N' := 10) hk hI dX12_init_39 rfl (wat_mem (i := 148) (by decide +kernel)) rfl rfl (fun _ _ => Iff.rfl) (fun _ => rfl) (by decide) (by decide) (Nat.le_of_ble_eq_true rfl) (Nat.le_trans (Nat.le_of_ble_eq_true rfl) hc9) (Nat.le_trans (Nat.le_of_ble_eq_true rfl) hs9) fun H hI => ?_
  rw [hrl]
  refine W.eq (g2 := F0 m 41 ls [.ref (sz + 4), .ref a]) rfl ?_
  refine ct_put (j := 6) hk hI dX12_init_41 (by decide) (by decide) (wat_mem (i := 1335) (by decide +kernel)) (cl_ty (q := 12) (by decide) 6 (by decide)) rfl rfl (by rw [hfl]; decide) rfl fun H locs hI => ?_
  exact W_cs (cells2 := 5) (slots2 := 140) rfl rfl (kk H locs _ _ rfl rfl (by rw [List.length_set]; exact hfl) (by rw [List.length_append, hrl]; rfl) hI)
theorem zb_5 (hk : KX p s m meth c w "FloatparadeModel" cX12_init 1) (hl : lv_has ls 1 [(0, .ref a)]) (hc9 : 46 ≤ R.cells) (hs9 : 2138 ≤ R.slots) (hfl : fs.length = 52) (hrl : rest.length = 5) (hI : CI w s a sz 12 fs rest H locs)
    (kk : ∀ H1 locs1 fs1 rest1, fs1 = fs.set 7 (.ref (sz + 5)) → rest1 = rest ++ [dar w 107] → fs1.length = 52 → rest1.length = 6 → CI w s a sz 12 fs1 rest1 H1 locs1 → W p l e R s m args below meth c H1 locs1 6 150 Q (F0 m 52 ls [])) : W p l e R s m args below meth c H locs 5 140 Q (F0 m 44 ls []) := by
  obtain ⟨hx, hb, hml, hown, hkw, hin⟩ := id hk
  refine lv_aload_n hx hb dX12_init_44 rfl (lv_at hl 0 rfl) ?_
  refine W.eq (g2 := F0 m 45 ls [.ref a]) rfl ?_
  refine lv_bipush hx hb (v := i32 10) dX12_init_45 (by decide) ?_
  refine W.eq (g2 := F0 m 47 ls [.int (i32 10), .ref a]) rfl ?_
  refine ct_newa (k2 := 107) (t := 0) (N' := 10) hk hI dX12_init_47 rfl (wat_mem (i := 148) (by decide +kernel)) rfl rfl (fun _ _ => Iff.rfl) (fun _ => rfl) (by decide) (by decide) (Nat.le_of_ble_eq_true rfl) (Nat.le_trans (Nat.le_of_ble_eq_true rfl) hc9) (Nat.le_trans (Nat.le_of_ble_eq_true rfl) hs9) fun H hI => ?_
  rw [hrl]
  refine W.eq (g2 := F0 m 49 ls [.ref (sz + 5), .ref a]) rfl ?_
  refine ct_put (j := 7) hk hI dX12_init_49 (by decide) (by decide) (wat_mem (i := 1336) (by decide +kernel)) (cl_ty (q := 12) (by decide) 7 (by decide)) rfl rfl (by rw [hfl]; decide) rfl fun H locs hI => ?_
  exact W_cs (cells2 := 6) (slots2 := 150) rfl rfl (kk H locs _ _ rfl rfl (by rw [List.length_set]; exact hfl) (by rw [List.length_append, hrl]; rfl) hI)
theorem zb_6 (hk : KX p s m meth c w "FloatparadeModel" cX12_init 1) (hl : lv_has ls 1 [(0, .ref a)]) (hc9 : 46 ≤ R.cells) (hs9 : 2138 ≤ R.slots) (hfl : fs.length = 52) (hrl : rest.length = 6) (hI : CI w s a sz 12 fs rest H locs)
    (kk : ∀ H1 locs1 fs1 rest1, fs1 = fs.set 8 (.ref (sz + 6)) → rest1 = rest ++ [dar w 108] → fs1.length = 52 → rest1.length = 7 → CI w s a sz 12 fs1 rest1 H1 locs1 → W p l e R s m args below meth c H1 locs1 7 160 Q (F0 m 60 ls [])) : W p l e R s m args below meth c H locs 6 150 Q (F0 m 52 ls []) := by
  obtain ⟨hx, hb, hml, hown, hkw, hin⟩ := id hk
  refine lv_aload_n hx hb dX12_init_52 rfl (lv_at hl 0 rfl) ?_
  refine W.eq (g2 := F0 m 53 ls [.ref a]) rfl ?_
  refine lv_bipush hx hb (v := i32 10) dX12_init_53 (by decide) ?_
  refine W.eq (g2 := F0 m 55 ls [.int (i32 10), .ref a]) rfl ?_
  refine ct_newa (k2 := 108) (t := 0) (N' := 10) hk hI dX12_init_55 rfl (wat_mem (i := 148) (by decide +kernel)) rfl rfl (fun _ _ => Iff.rfl) (fun _ => rfl) (by decide) (by decide) (Nat.le_of_ble_eq_true rfl) (Nat.le_trans (Nat.le_of_ble_eq_true rfl) hc9) (Nat.le_trans (Nat.le_of_ble_eq_true rfl) hs9) fun H hI => ?_
  rw [hrl]
  refine W.eq (g2 := F0 m 57 ls [.ref (sz + 6), .ref a]) rfl ?_
  refine ct_put (j := 8) hk hI dX12_init_57 (by decide) (by decide) (wat_mem (i := 1337) (by decide +kernel)) (cl_ty (q := 12) (by decide) 8 (by decide)) rfl rfl (by rw [hfl]; decide) rfl fun H locs hI => ?_
  exact W_cs (cells2 := 7) (slots2 := 160) rfl rfl (kk H locs _ _ rfl rfl (by rw [List.length_set]; exact hfl) (by rw [List.length_append, hrl]; rfl) hI)
theorem zb_7 (hk : KX p s m meth c w "FloatparadeModel" cX12_init 1) (hl : lv_has ls 1 [(0, .ref a)]) (hc9 : 46 ≤ R.cells) (hs9 : 2138 ≤ R.slots) (hfl : fs.length = 52) (hrl : rest.length = 7) (hI : CI w s a sz 12 fs rest H locs)
    (kk : ∀ H1 locs1 fs1 rest1, fs1 = fs.set 9 (.ref (sz + 7)) → rest1 = rest ++ [dar w 109] → fs1.length = 52 → rest1.length = 8 → CI w s a sz 12 fs1 rest1 H1 locs1 → W p l e R s m args below meth c H1 locs1 8 170 Q (F0 m 68 ls [])) : W p l e R s m args below meth c H locs 7 160 Q (F0 m 60 ls []) := by
  obtain ⟨hx, hb, hml, hown, hkw, hin⟩ := id hk
  refine lv_aload_n hx hb dX12_init_60 rfl (lv_at hl 0 rfl) ?_
  refine W.eq (g2 := F0 m 61 ls [.ref a]) rfl ?_
  refine lv_bipush hx hb (v := i32 10) dX12_init_61 (by decide) ?_
  refine W.eq (g2 := F0 m 63 ls [.int (i32 10), .ref a]) rfl ?_
  refine ct_newa (k2 := 109) (t := 0) (N' := 10) hk hI dX12_init_63 rfl (wat_mem (i := 148) (by decide +kernel)) rfl rfl (fun _ _ => Iff.rfl) (fun _ => rfl) (by decide) (by decide) (Nat.le_of_ble_eq_true rfl) (Nat.le_trans (Nat.le_of_ble_eq_true rfl) hc9) (Nat.le_trans (Nat.le_of_ble_eq_true rfl) hs9) fun H hI => ?_
  rw [hrl]
  refine W.eq (g2 := F0 m 65 ls [.ref (sz + 7), .ref a]) rfl ?_
  refine ct_put (j := 9) hk hI dX12_init_65 (by decide) (by decide) (wat_mem (i := 1338) (by decide +kernel)) (cl_ty (q := 12) (by decide) 9 (by decide)) rfl rfl (by rw [hfl]; decide) rfl fun H locs hI => ?_
  exact W_cs (cells2 := 8) (slots2 := 170) rfl rfl (kk H locs _ _ rfl rfl (by rw [List.length_set]; exact hfl) (by rw [List.length_append, hrl]; rfl) hI)
theorem zb_8 (hk : KX p s m meth c w "FloatparadeModel" cX12_init 1) (hl : lv_has ls 1 [(0, .ref a)]) (hc9 : 46 ≤ R.cells) (hs9 : 2138 ≤ R.slots) (hfl : fs.length = 52) (hrl : rest.length = 8) (hI : CI w s a sz 12 fs rest H locs)
    (kk : ∀ H1 locs1 fs1 rest1, fs1 = fs.set 10 (.ref (sz + 8)) → rest1 = rest ++ [dar w 110] → fs1.length = 52 → rest1.length = 9 → CI w s a sz 12 fs1 rest1 H1 locs1 → W p l e R s m args below meth c H1 locs1 9 180 Q (F0 m 76 ls [])) : W p l e R s m args below meth c H locs 8 170 Q (F0 m 68 ls []) := by
  obtain ⟨hx, hb, hml, hown, hkw, hin⟩ := id hk
  refine lv_aload_n hx hb dX12_init_68 rfl (lv_at hl 0 rfl) ?_
  refine W.eq (g2 := F0 m 69 ls [.ref a]) rfl ?_
  refine lv_bipush hx hb (v := i32 10) dX12_init_69 (by decide) ?_
  refine W.eq (g2 := F0 m 71 ls [.int (i32 10), .ref a]) rfl ?_
  refine ct_newa (k2 := 110) (t := 1) (N' := 10) hk hI dX12_init_71 rfl (wat_mem (i := 121) (by decide +kernel)) rfl rfl (fun _ _ => Iff.rfl) (fun _ => rfl) (by decide) (by decide) (Nat.le_of_ble_eq_true rfl) (Nat.le_trans (Nat.le_of_ble_eq_true rfl) hc9) (Nat.le_trans (Nat.le_of_ble_eq_true rfl) hs9) fun H hI => ?_
  rw [hrl]
  refine W.eq (g2 := F0 m 73 ls [.ref (sz + 8), .ref a]) rfl ?_
  refine ct_put (j := 10) hk hI dX12_init_73 (by decide) (by decide) (wat_mem (i := 1339) (by decide +kernel)) (cl_ty (q := 12) (by decide) 10 (by decide)) rfl rfl (by rw [hfl]; decide) rfl fun H locs hI => ?_
  exact W_cs (cells2 := 9) (slots2 := 180) rfl rfl (kk H locs _ _ rfl rfl (by rw [List.length_set]; exact hfl) (by rw [List.length_append, hrl]; rfl) hI)
theorem zb_9 (hk : KX p s m meth c w "FloatparadeModel" cX12_init 1) (hl : lv_has ls 1 [(0, .ref a)]) (hc9 : 46 ≤ R.cells) (hs9 : 2138 ≤ R.slots) (hfl : fs.length = 52) (hrl : rest.length = 9) (hI : CI w s a sz 12 fs rest H locs)
    (kk : ∀ H1 locs1 fs1 rest1, fs1 = fs.set 11 (.ref (sz + 9)) → rest1 = rest ++ [dar w 111] → fs1.length = 52 → rest1.length = 10 → CI w s a sz 12 fs1 rest1 H1 locs1 → W p l e R s m args below meth c H1 locs1 10 240 Q (F0 m 84 ls [])) : W p l e R s m args below meth c H locs 9 180 Q (F0 m 76 ls []) := by
  obtain ⟨hx, hb, hml, hown, hkw, hin⟩ := id hk
  refine lv_aload_n hx hb dX12_init_76 rfl (lv_at hl 0 rfl) ?_
  refine W.eq (g2 := F0 m 77 ls [.ref a]) rfl ?_
  refine lv_bipush hx hb (v := i32 60) dX12_init_77 (by decide) ?_
  refine W.eq (g2 := F0 m 79 ls [.int (i32 60), .ref a]) rfl ?_
  refine ct_newa (k2 := 111) (t := 0) (N' := 60) hk hI dX12_init_79 rfl (wat_mem (i := 148) (by decide +kernel)) rfl rfl (fun _ _ => Iff.rfl) (fun _ => rfl) (by decide) (by decide) (Nat.le_of_ble_eq_true rfl) (Nat.le_trans (Nat.le_of_ble_eq_true rfl) hc9) (Nat.le_trans (Nat.le_of_ble_eq_true rfl) hs9) fun H hI => ?_
  rw [hrl]
  refine W.eq (g2 := F0 m 81 ls [.ref (sz + 9), .ref a]) rfl ?_
  refine ct_put (j := 11) hk hI dX12_init_81 (by decide) (by decide) (wat_mem (i := 1340) (by decide +kernel)) (cl_ty (q := 12) (by decide) 11 (by decide)) rfl rfl (by rw [hfl]; decide) rfl fun H locs hI => ?_
  exact W_cs (cells2 := 10) (slots2 := 240) rfl rfl (kk H locs _ _ rfl rfl (by rw [List.length_set]; exact hfl) (by rw [List.length_append, hrl]; rfl) hI)
theorem zb_10 (hk : KX p s m meth c w "FloatparadeModel" cX12_init 1) (hl : lv_has ls 1 [(0, .ref a)]) (hc9 : 46 ≤ R.cells) (hs9 : 2138 ≤ R.slots) (hfl : fs.length = 52) (hrl : rest.length = 10) (hI : CI w s a sz 12 fs rest H locs)
    (kk : ∀ H1 locs1 fs1 rest1, fs1 = fs.set 12 (.ref (sz + 10)) → rest1 = rest ++ [dar w 112] → fs1.length = 52 → rest1.length = 11 → CI w s a sz 12 fs1 rest1 H1 locs1 → W p l e R s m args below meth c H1 locs1 11 250 Q (F0 m 92 ls [])) : W p l e R s m args below meth c H locs 10 240 Q (F0 m 84 ls []) := by
  obtain ⟨hx, hb, hml, hown, hkw, hin⟩ := id hk
  refine lv_aload_n hx hb dX12_init_84 rfl (lv_at hl 0 rfl) ?_
  refine W.eq (g2 := F0 m 85 ls [.ref a]) rfl ?_
  refine lv_bipush hx hb (v := i32 10) dX12_init_85 (by decide) ?_
  refine W.eq (g2 := F0 m 87 ls [.int (i32 10), .ref a]) rfl ?_
  refine ct_newa (k2 := 112) (t := 0) (N' := 10) hk hI dX12_init_87 rfl (wat_mem (i := 148) (by decide +kernel)) rfl rfl (fun _ _ => Iff.rfl) (fun _ => rfl) (by decide) (by decide) (Nat.le_of_ble_eq_true rfl) (Nat.le_trans (Nat.le_of_ble_eq_true rfl) hc9) (Nat.le_trans (Nat.le_of_ble_eq_true rfl) hs9) fun H hI => ?_
  rw [hrl]
  refine W.eq (g2 := F0 m 89 ls [.ref (sz + 10), .ref a]) rfl ?_
  refine ct_put (j := 12) hk hI dX12_init_89 (by decide) (by decide) (wat_mem (i := 1341) (by decide +kernel)) (cl_ty (q := 12) (by decide) 12 (by decide)) rfl rfl (by rw [hfl]; decide) rfl fun H locs hI => ?_
  exact W_cs (cells2 := 11) (slots2 := 250) rfl rfl (kk H locs _ _ rfl rfl (by rw [List.length_set]; exact hfl) (by rw [List.length_append, hrl]; rfl) hI)
theorem zb_11 (hk : KX p s m meth c w "FloatparadeModel" cX12_init 1) (hl : lv_has ls 1 [(0, .ref a)]) (hc9 : 46 ≤ R.cells) (hs9 : 2138 ≤ R.slots) (hfl : fs.length = 52) (hrl : rest.length = 11) (hI : CI w s a sz 12 fs rest H locs)
    (kk : ∀ H1 locs1 fs1 rest1, fs1 = fs.set 13 (.ref (sz + 11)) → rest1 = rest ++ [dar w 113] → fs1.length = 52 → rest1.length = 12 → CI w s a sz 12 fs1 rest1 H1 locs1 → W p l e R s m args below meth c H1 locs1 12 370 Q (F0 m 100 ls [])) : W p l e R s m args below meth c H locs 11 250 Q (F0 m 92 ls []) := by
  obtain ⟨hx, hb, hml, hown, hkw, hin⟩ := id hk
  refine lv_aload_n hx hb dX12_init_92 rfl (lv_at hl 0 rfl) ?_
  refine W.eq (g2 := F0 m 93 ls [.ref a]) rfl ?_
  refine lv_bipush hx hb (v := i32 120) dX12_init_93 (by decide) ?_
  refine W.eq (g2 := F0 m 95 ls [.int (i32 120), .ref a]) rfl ?_
  refine ct_newa (k2 := 113) (t := 0) (N' := 120) hk hI dX12_init_95 rfl (wat_mem (i := 148) (by decide +kernel)) rfl rfl (fun _ _ => Iff.rfl) (fun _ => rfl) (by decide) (by decide) (Nat.le_of_ble_eq_true rfl) (Nat.le_trans (Nat.le_of_ble_eq_true rfl) hc9) (Nat.le_trans (Nat.le_of_ble_eq_true rfl) hs9) fun H hI => ?_
  rw [hrl]
  refine W.eq (g2 := F0 m 97 ls [.ref (sz + 11), .ref a]) rfl ?_
  refine ct_put (j := 13) hk hI dX12_init_97 (by decide) (by decide) (wat_mem (i := 1342) (by decide +kernel)) (cl_ty (q := 12) (by decide) 13 (by decide)) rfl rfl (by rw [hfl]; decide) rfl fun H locs hI => ?_
  exact W_cs (cells2 := 12) (slots2 := 370) rfl rfl (kk H locs _ _ rfl rfl (by rw [List.length_set]; exact hfl) (by rw [List.length_append, hrl]; rfl) hI)
theorem zb_12 (hk : KX p s m meth c w "FloatparadeModel" cX12_init 1) (hl : lv_has ls 1 [(0, .ref a)]) (hc9 : 46 ≤ R.cells) (hs9 : 2138 ≤ R.slots) (hfl : fs.length = 52) (hrl : rest.length = 12) (hI : CI w s a sz 12 fs rest H locs)
    (kk : ∀ H1 locs1 fs1 rest1, fs1 = fs.set 15 (.ref (sz + 12)) → rest1 = rest ++ [dar w 115] → fs1.length = 52 → rest1.length = 13 → CI w s a sz 12 fs1 rest1 H1 locs1 → W p l e R s m args below meth c H1 locs1 13 386 Q (F0 m 108 ls [])) : W p l e R s m args below meth c H locs 12 370 Q (F0 m 100 ls []) := by
  obtain ⟨hx, hb, hml, hown, hkw, hin⟩ := id hk
  refine lv_aload_n hx hb dX12_init_100 rfl (lv_at hl 0 rfl) ?_
  refine W.eq (g2 := F0 m 101 ls [.ref a]) rfl ?_
  refine lv_bipush hx hb (v := i32 16) dX12_init_101 (by decide) ?_
  refine W.eq (g2 := F0 m 103 ls [.int (i32 16), .ref a]) rfl ?_
  refine ct_newa (k2 := 115) (t := 0) (N' := 16) hk hI dX12_init_103 rfl (wat_mem (i := 148) (by decide +kernel)) rfl rfl (fun _ _ => Iff.rfl) (fun _ => rfl) (by decide) (by decide) (Nat.le_of_ble_eq_true rfl) (Nat.le_trans (Nat.le_of_ble_eq_true rfl) hc9) (Nat.le_trans (Nat.le_of_ble_eq_true rfl) hs9) fun H hI => ?_
  rw [hrl]
  refine W.eq (g2 := F0 m 105 ls [.ref (sz + 12), .ref a]) rfl ?_
  refine ct_put (j := 15) hk hI dX12_init_105 (by decide) (by decide) (wat_mem (i := 1344) (by decide +kernel)) (cl_ty (q := 12) (by decide) 15 (by decide)) rfl rfl (by rw [hfl]; decide) rfl fun H locs hI => ?_
  exact W_cs (cells2 := 13) (slots2 := 386) rfl rfl (kk H locs _ _ rfl rfl (by rw [List.length_set]; exact hfl) (by rw [List.length_append, hrl]; rfl) hI)
theorem zb_13 (hk : KX p s m meth c w "FloatparadeModel" cX12_init 1) (hl : lv_has ls 1 [(0, .ref a)]) (hc9 : 46 ≤ R.cells) (hs9 : 2138 ≤ R.slots) (hfl : fs.length = 52) (hrl : rest.length = 13) (hI : CI w s a sz 12 fs rest H locs)
    (kk : ∀ H1 locs1 fs1 rest1, fs1 = fs.set 16 (.ref (sz + 13)) → rest1 = rest ++ [dar w 116] → fs1.length = 52 → rest1.length = 14 → CI w s a sz 12 fs1 rest1 H1 locs1 → W p l e R s m args below meth c H1 locs1 14 402 Q (F0 m 116 ls [])) : W p l e R s m args below meth c H locs 13 386 Q (F0 m 108 ls []) := by
  obtain ⟨hx, hb, hml, hown, hkw, hin⟩ := id hk
  refine lv_aload_n hx hb dX12_init_108 rfl (lv_at hl 0 rfl) ?_
  refine W.eq (g2 := F0 m 109 ls [.ref a]) rfl ?_
  refine lv_bipush hx hb (v := i32 16) dX12_init_109 (by decide) ?_
  refine W.eq (g2 := F0 m 111 ls [.int (i32 16), .ref a]) rfl ?_
  refine ct_newa (k2 := 116) (t := 0) (N' := 16) hk hI dX12_init_111 rfl (wat_mem (i := 148) (by decide +kernel)) rfl rfl (fun _ _ => Iff.rfl) (fun _ => rfl) (by decide) (by decide) (Nat.le_of_ble_eq_true rfl) (Nat.le_trans (Nat.le_of_ble_eq_true rfl) hc9) (Nat.le_trans (Nat.le_of_ble_eq_true rfl) hs9) fun H hI => ?_
  rw [hrl]
  refine W.eq (g2 := F0 m 113 ls [.ref (sz + 13), .ref a]) rfl ?_
  refine ct_put (j := 16) hk hI dX12_init_113 (by decide) (by decide) (wat_mem (i := 1345) (by decide +kernel)) (cl_ty (q := 12) (by decide) 16 (by decide)) rfl rfl (by rw [hfl]; decide) rfl fun H locs hI => ?_
  exact W_cs (cells2 := 14) (slots2 := 402) rfl rfl (kk H locs _ _ rfl rfl (by rw [List.length_set]; exact hfl) (by rw [List.length_append, hrl]; rfl) hI)
theorem zb_14 (hk : KX p s m meth c w "FloatparadeModel" cX12_init 1) (hl : lv_has ls 1 [(0, .ref a)]) (hc9 : 46 ≤ R.cells) (hs9 : 2138 ≤ R.slots) (hfl : fs.length = 52) (hrl : rest.length = 14) (hI : CI w s a sz 12 fs rest H locs)
    (kk : ∀ H1 locs1 fs1 rest1, fs1 = fs.set 17 (.ref (sz + 14)) → rest1 = rest ++ [dar w 117] → fs1.length = 52 → rest1.length = 15 → CI w s a sz 12 fs1 rest1 H1 locs1 → W p l e R s m args below meth c H1 locs1 15 418 Q (F0 m 124 ls [])) : W p l e R s m args below meth c H locs 14 402 Q (F0 m 116 ls []) := by
  obtain ⟨hx, hb, hml, hown, hkw, hin⟩ := id hk
  refine lv_aload_n hx hb dX12_init_116 rfl (lv_at hl 0 rfl) ?_
  refine W.eq (g2 := F0 m 117 ls [.ref a]) rfl ?_
  refine lv_bipush hx hb (v := i32 16) dX12_init_117 (by decide) ?_
  refine W.eq (g2 := F0 m 119 ls [.int (i32 16), .ref a]) rfl ?_
  refine ct_newa (k2 := 117) (t := 0) (N' := 16) hk hI dX12_init_119 rfl (wat_mem (i := 148) (by decide +kernel)) rfl rfl (fun _ _ => Iff.rfl) (fun _ => rfl) (by decide) (by decide) (Nat.le_of_ble_eq_true rfl) (Nat.le_trans (Nat.le_of_ble_eq_true rfl) hc9) (Nat.le_trans (Nat.le_of_ble_eq_true rfl) hs9) fun H hI => ?_
  rw [hrl]
  refine W.eq (g2 := F0 m 121 ls [.ref (sz + 14), .ref a]) rfl ?_
  refine ct_put (j := 17) hk hI dX12_init_121 (by decide) (by decide) (wat_mem (i := 1346) (by decide +kernel)) (cl_ty (q := 12) (by decide) 17 (by decide)) rfl rfl (by rw [hfl]; decide) rfl fun H locs hI => ?_
  exact W_cs (cells2 := 15) (slots2 := 418) rfl rfl (kk H locs _ _ rfl rfl (by rw [List.length_set]; exact hfl) (by rw [List.length_append, hrl]; rfl) hI)
theorem zb_15 (hk : KX p s m meth c w "FloatparadeModel" cX12_init 1) (hl : lv_has ls 1 [(0, .ref a)]) (hc9 : 46 ≤ R.cells) (hs9 : 2138 ≤ R.slots) (hfl : fs.length = 52) (hrl : rest.length = 15) (hI : CI w s a sz 12 fs rest H locs)
    (kk : ∀ H1 locs1 fs1 rest1, fs1 = fs.set 18 (.ref (sz + 15)) → rest1 = rest ++ [dar w 118] → fs1.length = 52 → rest1.length = 16 → CI w s a sz 12 fs1 rest1 H1 locs1 → W p l e R s m args below meth c H1 locs1 16 434 Q (F0 m 132 ls [])) : W p l e R s m args below meth c H locs 15 418 Q (F0 m 124 ls []) := by
  obtain ⟨hx, hb, hml, hown, hkw, hin⟩ := id hk
  refine lv_aload_n hx hb dX12_init_124 rfl (lv_at hl 0 rfl) ?_
  refine W.eq (g2 := F0 m 125 ls [.ref a]) rfl ?_
  refine lv_bipush hx hb (v := i32 16) dX12_init_125 (by decide) ?_
  refine W.eq (g2 := F0 m 127 ls [.int (i32 16), .ref a]) rfl ?_
  refine ct_newa (k2 := 118) (t := 0) (N' := 16) hk hI dX12_init_127 rfl (wat_mem (i := 148) (by decide +kernel)) rfl rfl (fun _ _ => Iff.rfl) (fun _ => rfl) (by decide) (by decide) (Nat.le_of_ble_eq_true rfl) (Nat.le_trans (Nat.le_of_ble_eq_true rfl) hc9) (Nat.le_trans (Nat.le_of_ble_eq_true rfl) hs9) fun H hI => ?_
  rw [hrl]
  refine W.eq (g2 := F0 m 129 ls [.ref (sz + 15), .ref a]) rfl ?_
  refine ct_put (j := 18) hk hI dX12_init_129 (by decide) (by decide) (wat_mem (i := 1347) (by decide +kernel)) (cl_ty (q := 12) (by decide) 18 (by decide)) rfl rfl (by rw [hfl]; decide) rfl fun H locs hI => ?_
  exact W_cs (cells2 := 16) (slots2 := 434) rfl rfl (kk H locs _ _ rfl rfl (by rw [List.length_set]; exact hfl) (by rw [List.length_append, hrl]; rfl) hI)
theorem zb_16 (hk : KX p s m meth c w "FloatparadeModel" cX12_init 1) (hl : lv_has ls 1 [(0, .ref a)]) (hc9 : 46 ≤ R.cells) (hs9 : 2138 ≤ R.slots) (hfl : fs.length = 52) (hrl : rest.length = 16) (hI : CI w s a sz 12 fs rest H locs)
    (kk : ∀ H1 locs1 fs1 rest1, fs1 = fs.set 19 (.ref (sz + 16)) → rest1 = rest ++ [dar w 119] → fs1.length = 52 → rest1.length = 17 → CI w s a sz 12 fs1 rest1 H1 locs1 → W p l e R s m args below meth c H1 locs1 17 450 Q (F0 m 140 ls [])) : W p l e R s m args below meth c H locs 16 434 Q (F0 m 132 ls []) := by
  obtain ⟨hx, hb, hml, hown, hkw, hin⟩ := id hk
  refine lv_aload_n hx hb dX12_init_132 rfl (lv_at hl 0 rfl) ?_
  refine W.eq (g2 := F0 m 133 ls [.ref a]) rfl ?_
  refine lv_bipush hx hb (v := i32 16) dX12_init_133 (by decide) ?_
  refine W.eq (g2 := F0 m 135 ls [.int (i32 16), .ref a]) rfl ?_
  refine ct_newa (k2 := 119) (t := 0) (N' := 16) hk hI dX12_init_135 rfl (wat_mem (i := 148) (by decide +kernel)) rfl rfl (fun _ _ => Iff.rfl) (fun _ => rfl) (by decide) (by decide) (Nat.le_of_ble_eq_true rfl) (Nat.le_trans (Nat.le_of_ble_eq_true rfl) hc9) (Nat.le_trans (Nat.le_of_ble_eq_true rfl) hs9) fun H hI => ?_
  rw [hrl]
  refine W.eq (g2 := F0 m 137 ls [.ref (sz + 16), .ref a]) rfl ?_
  refine ct_put (j := 19) hk hI dX12_init_137 (by decide) (by decide) (wat_mem (i := 1348) (by decide +kernel)) (cl_ty (q := 12) (by decide) 19 (by decide)) rfl rfl (by rw [hfl]; decide) rfl fun H locs hI => ?_
  exact W_cs (cells2 := 17) (slots2 := 450) rfl rfl (kk H locs _ _ rfl rfl (by rw [List.length_set]; exact hfl) (by rw [List.length_append, hrl]; rfl) hI)
theorem zb_17 (hk : KX p s m meth c w "FloatparadeModel" cX12_init 1) (hl : lv_has ls 1 [(0, .ref a)]) (hc9 : 46 ≤ R.cells) (hs9 : 2138 ≤ R.slots) (hfl : fs.length = 52) (hrl : rest.length = 17) (hI : CI w s a sz 12 fs rest H locs)
    (kk : ∀ H1 locs1 fs1 rest1, fs1 = fs.set 20 (.ref (sz + 17)) → rest1 = rest ++ [dar w 120] → fs1.length = 52 → rest1.length = 18 → CI w s a sz 12 fs1 rest1 H1 locs1 → W p l e R s m args below meth c H1 locs1 18 466 Q (F0 m 148 ls [])) : W p l e R s m args below meth c H locs 17 450 Q (F0 m 140 ls []) := by
  obtain ⟨hx, hb, hml, hown, hkw, hin⟩ := id hk
  refine lv_aload_n hx hb dX12_init_140 rfl (lv_at hl 0 rfl) ?_
  refine W.eq (g2 := F0 m 141 ls [.ref a]) rfl ?_
  refine lv_bipush hx hb (v := i32 16) dX12_init_141 (by decide) ?_
  refine W.eq (g2 := F0 m 143 ls [.int (i32 16), .ref a]) rfl ?_
  refine ct_newa (k2 := 120) (t := 0) (N' := 16) hk hI dX12_init_143 rfl (wat_mem (i := 148) (by decide +kernel)) rfl rfl (fun _ _ => Iff.rfl) (fun _ => rfl) (by decide) (by decide) (Nat.le_of_ble_eq_true rfl) (Nat.le_trans (Nat.le_of_ble_eq_true rfl) hc9) (Nat.le_trans (Nat.le_of_ble_eq_true rfl) hs9) fun H hI => ?_
  rw [hrl]
  refine W.eq (g2 := F0 m 145 ls [.ref (sz + 17), .ref a]) rfl ?_
  refine ct_put (j := 20) hk hI dX12_init_145 (by decide) (by decide) (wat_mem (i := 1349) (by decide +kernel)) (cl_ty (q := 12) (by decide) 20 (by decide)) rfl rfl (by rw [hfl]; decide) rfl fun H locs hI => ?_
  exact W_cs (cells2 := 18) (slots2 := 466) rfl rfl (kk H locs _ _ rfl rfl (by rw [List.length_set]; exact hfl) (by rw [List.length_append, hrl]; rfl) hI)
theorem zb_18 (hk : KX p s m meth c w "FloatparadeModel" cX12_init 1) (hl : lv_has ls 1 [(0, .ref a)]) (hc9 : 46 ≤ R.cells) (hs9 : 2138 ≤ R.slots) (hfl : fs.length = 52) (hrl : rest.length = 18) (hI : CI w s a sz 12 fs rest H locs)
    (kk : ∀ H1 locs1 fs1 rest1, fs1 = fs.set 21 (.ref (sz + 18)) → rest1 = rest ++ [dar w 121] → fs1.length = 52 → rest1.length = 19 → CI w s a sz 12 fs1 rest1 H1 locs1 → W p l e R s m args below meth c H1 locs1 19 468 Q (F0 m 155 ls [])) : W p l e R s m args below meth c H locs 18 466 Q (F0 m 148 ls []) := by
  obtain ⟨hx, hb, hml, hown, hkw, hin⟩ := id hk
  refine lv_aload_n hx hb dX12_init_148 rfl (lv_at hl 0 rfl) ?_
  refine W.eq (g2 := F0 m 149 ls [.ref a]) rfl ?_
  refine lv_iconst hx hb (v := i32 2) dX12_init_149 rfl ?_
  refine W.eq (g2 := F0 m 150 ls [.int (i32 2), .ref a]) rfl ?_
  refine ct_newa (k2 := 121) (t := 0) (N' := 2) hk hI dX12_init_150 rfl (wat_mem (i := 148) (by decide +kernel)) rfl rfl (fun _ _ => Iff.rfl) (fun _ => rfl) (by decide) (by decide) (Nat.le_of_ble_eq_true rfl) (Nat.le_trans (Nat.le_of_ble_eq_true rfl) hc9) (Nat.le_trans (Nat.le_of_ble_eq_true rfl) hs9) fun H hI => ?_
  rw [hrl]
  refine W.eq (g2 := F0 m 152 ls [.ref (sz + 18), .ref a]) rfl ?_
  refine ct_put (j := 21) hk hI dX12_init_152 (by decide) (by decide) (wat_mem (i := 1350) (by decide +kernel)) (cl_ty (q := 12) (by decide) 21 (by decide)) rfl rfl (by rw [hfl]; decide) rfl fun H locs hI => ?_
  exact W_cs (cells2 := 19) (slots2 := 468) rfl rfl (kk H locs _ _ rfl rfl (by rw [List.length_set]; exact hfl) (by rw [List.length_append, hrl]; rfl) hI)
theorem zb_19 (hk : KX p s m meth c w "FloatparadeModel" cX12_init 1) (hl : lv_has ls 1 [(0, .ref a)]) (hc9 : 46 ≤ R.cells) (hs9 : 2138 ≤ R.slots) (hfl : fs.length = 52) (hrl : rest.length = 19) (hI : CI w s a sz 12 fs rest H locs)
    (kk : ∀ H1 locs1 fs1 rest1, fs1 = fs.set 22 (.ref (sz + 19)) → rest1 = rest ++ [dar w 122] → fs1.length = 52 → rest1.length = 20 → CI w s a sz 12 fs1 rest1 H1 locs1 → W p l e R s m args below meth c H1 locs1 20 488 Q (F0 m 163 ls [])) : W p l e R s m args below meth c H locs 19 468 Q (F0 m 155 ls []) := by
  obtain ⟨hx, hb, hml, hown, hkw, hin⟩ := id hk
  refine lv_aload_n hx hb dX12_init_155 rfl (lv_at hl 0 rfl) ?_
  refine W.eq (g2 := F0 m 156 ls [.ref a]) rfl ?_
  refine lv_bipush hx hb (v := i32 20) dX12_init_156 (by decide) ?_
  refine W.eq (g2 := F0 m 158 ls [.int (i32 20), .ref a]) rfl ?_
  refine ct_newa (k2 := 122) (t := 0) (N' := 20) hk hI dX12_init_158 rfl (wat_mem (i := 148) (by decide +kernel)) rfl rfl (fun _ _ => Iff.rfl) (fun _ => rfl) (by decide) (by decide) (Nat.le_of_ble_eq_true rfl) (Nat.le_trans (Nat.le_of_ble_eq_true rfl) hc9) (Nat.le_trans (Nat.le_of_ble_eq_true rfl) hs9) fun H hI => ?_
  rw [hrl]
  refine W.eq (g2 := F0 m 160 ls [.ref (sz + 19), .ref a]) rfl ?_
  refine ct_put (j := 22) hk hI dX12_init_160 (by decide) (by decide) (wat_mem (i := 1351) (by decide +kernel)) (cl_ty (q := 12) (by decide) 22 (by decide)) rfl rfl (by rw [hfl]; decide) rfl fun H locs hI => ?_
  exact W_cs (cells2 := 20) (slots2 := 488) rfl rfl (kk H locs _ _ rfl rfl (by rw [List.length_set]; exact hfl) (by rw [List.length_append, hrl]; rfl) hI)
theorem zb_20 (hk : KX p s m meth c w "FloatparadeModel" cX12_init 1) (hl : lv_has ls 1 [(0, .ref a)]) (hc9 : 46 ≤ R.cells) (hs9 : 2138 ≤ R.slots) (hfl : fs.length = 52) (hrl : rest.length = 20) (hI : CI w s a sz 12 fs rest H locs)
    (kk : ∀ H1 locs1 fs1 rest1, fs1 = fs.set 23 (.ref (sz + 20)) → rest1 = rest ++ [dar w 123] → fs1.length = 52 → rest1.length = 21 → CI w s a sz 12 fs1 rest1 H1 locs1 → W p l e R s m args below meth c H1 locs1 21 500 Q (F0 m 171 ls [])) : W p l e R s m args below meth c H locs 20 488 Q (F0 m 163 ls []) := by
  obtain ⟨hx, hb, hml, hown, hkw, hin⟩ := id hk
  refine lv_aload_n hx hb dX12_init_163 rfl (lv_at hl 0 rfl) ?_
  refine W.eq (g2 := F0 m 164 ls [.ref a]) rfl ?_
  refine lv_bipush hx hb (v := i32 12) dX12_init_164 (by decide) ?_
  refine W.eq (g2 := F0 m 166 ls [.int (i32 12), .ref a]) rfl ?_
  refine ct_newa (k2 := 123) (t := 1) (N' := 12) hk hI dX12_init_166 rfl (wat_mem (i := 121) (by decide +kernel)) rfl rfl (fun _ _ => Iff.rfl) (fun _ => rfl) (by decide) (by decide) (Nat.le_of_ble_eq_true rfl) (Nat.le_trans (Nat.le_of_ble_eq_true rfl) hc9) (Nat.le_trans (Nat.le_of_ble_eq_true rfl) hs9) fun H hI => ?_
  rw [hrl]
  refine W.eq (g2 := F0 m 168 ls [.ref (sz + 20), .ref a]) rfl ?_
  refine ct_put (j := 23) hk hI dX12_init_168 (by decide) (by decide) (wat_mem (i := 1352) (by decide +kernel)) (cl_ty (q := 12) (by decide) 23 (by decide)) rfl rfl (by rw [hfl]; decide) rfl fun H locs hI => ?_
  exact W_cs (cells2 := 21) (slots2 := 500) rfl rfl (kk H locs _ _ rfl rfl (by rw [List.length_set]; exact hfl) (by rw [List.length_append, hrl]; rfl) hI)
theorem zb_21 (hk : KX p s m meth c w "FloatparadeModel" cX12_init 1) (hl : lv_has ls 1 [(0, .ref a)]) (hc9 : 46 ≤ R.cells) (hs9 : 2138 ≤ R.slots) (hfl : fs.length = 52) (hrl : rest.length = 21) (hI : CI w s a sz 12 fs rest H locs)
    (kk : ∀ H1 locs1 fs1 rest1, fs1 = fs.set 24 (.ref (sz + 21)) → rest1 = rest ++ [dar w 124] → fs1.length = 52 → rest1.length = 22 → CI w s a sz 12 fs1 rest1 H1 locs1 → W p l e R s m args below meth c H1 locs1 22 510 Q (F0 m 179 ls [])) : W p l e R s m args below meth c H locs 21 500 Q (F0 m 171 ls []) := by
  obtain ⟨hx, hb, hml, hown, hkw, hin⟩ := id hk
  refine lv_aload_n hx hb dX12_init_171 rfl (lv_at hl 0 rfl) ?_
  refine W.eq (g2 := F0 m 172 ls [.ref a]) rfl ?_
  refine lv_bipush hx hb (v := i32 10) dX12_init_172 (by decide) ?_
  refine W.eq (g2 := F0 m 174 ls [.int (i32 10), .ref a]) rfl ?_
  refine ct_newa (k2 := 124) (t := 1) (N' := 10) hk hI dX12_init_174 rfl (wat_mem (i := 121) (by decide +kernel)) rfl rfl (fun _ _ => Iff.rfl) (fun _ => rfl) (by decide) (by decide) (Nat.le_of_ble_eq_true rfl) (Nat.le_trans (Nat.le_of_ble_eq_true rfl) hc9) (Nat.le_trans (Nat.le_of_ble_eq_true rfl) hs9) fun H hI => ?_
  rw [hrl]
  refine W.eq (g2 := F0 m 176 ls [.ref (sz + 21), .ref a]) rfl ?_
  refine ct_put (j := 24) hk hI dX12_init_176 (by decide) (by decide) (wat_mem (i := 1353) (by decide +kernel)) (cl_ty (q := 12) (by decide) 24 (by decide)) rfl rfl (by rw [hfl]; decide) rfl fun H locs hI => ?_
  exact W_cs (cells2 := 22) (slots2 := 510) rfl rfl (kk H locs _ _ rfl rfl (by rw [List.length_set]; exact hfl) (by rw [List.length_append, hrl]; rfl) hI)
theorem zb_22 (hk : KX p s m meth c w "FloatparadeModel" cX12_init 1) (hl : lv_has ls 1 [(0, .ref a)]) (hc9 : 46 ≤ R.cells) (hs9 : 2138 ≤ R.slots) (hfl : fs.length = 52) (hrl : rest.length = 22) (hI : CI w s a sz 12 fs rest H locs)
    (kk : ∀ H1 locs1 fs1 rest1, fs1 = fs.set 25 (.ref (sz + 22)) → rest1 = rest ++ [dar w 125] → fs1.length = 52 → rest1.length = 23 → CI w s a sz 12 fs1 rest1 H1 locs1 → W p l e R s m args below meth c H1 locs1 23 520 Q (F0 m 187 ls [])) : W p l e R s m args below meth c H locs 22 510 Q (F0 m 179 ls []) := by
  obtain ⟨hx, hb, hml, hown, hkw, hin⟩ := id hk
  refine lv_aload_n hx hb dX12_init_179 rfl (lv_at hl 0 rfl) ?_
  refine W.eq (g2 := F0 m 180 ls [.ref a]) rfl ?_
  refine lv_bipush hx hb (v := i32 10) dX12_init_180 (by decide) ?_
  refine W.eq (g2 := F0 m 182 ls [.int (i32 10), .ref a]) rfl ?_
  refine ct_newa (k2 := 125) (t := 0) (N' := 10) hk hI dX12_init_182 rfl (wat_mem (i := 148) (by decide +kernel)) rfl rfl (fun _ _ => Iff.rfl) (fun _ => rfl) (by decide) (by decide) (Nat.le_of_ble_eq_true rfl) (Nat.le_trans (Nat.le_of_ble_eq_true rfl) hc9) (Nat.le_trans (Nat.le_of_ble_eq_true rfl) hs9) fun H hI => ?_
  rw [hrl]
  refine W.eq (g2 := F0 m 184 ls [.ref (sz + 22), .ref a]) rfl ?_
  refine ct_put (j := 25) hk hI dX12_init_184 (by decide) (by decide) (wat_mem (i := 1354) (by decide +kernel)) (cl_ty (q := 12) (by decide) 25 (by decide)) rfl rfl (by rw [hfl]; decide) rfl fun H locs hI => ?_
  exact W_cs (cells2 := 23) (slots2 := 520) rfl rfl (kk H locs _ _ rfl rfl (by rw [List.length_set]; exact hfl) (by rw [List.length_append, hrl]; rfl) hI)
theorem zb_23 (hk : KX p s m meth c w "FloatparadeModel" cX12_init 1) (hl : lv_has ls 1 [(0, .ref a)]) (hc9 : 46 ≤ R.cells) (hs9 : 2138 ≤ R.slots) (hfl : fs.length = 52) (hrl : rest.length = 23) (hI : CI w s a sz 12 fs rest H locs)
    (kk : ∀ H1 locs1 fs1 rest1, fs1 = fs.set 26 (.ref (sz + 23)) → rest1 = rest ++ [dar w 126] → fs1.length = 52 → rest1.length = 24 → CI w s a sz 12 fs1 rest1 H1 locs1 → W p l e R s m args below meth c H1 locs1 24 522 Q (F0 m 194 ls [])) : W p l e R s m args below meth c H locs 23 520 Q (F0 m 187 ls []) := by
  obtain ⟨hx, hb, hml, hown, hkw, hin⟩ := id hk
  refine lv_aload_n hx hb dX12_init_187 rfl (lv_at hl 0 rfl) ?_
  refine W.eq (g2 := F0 m 188 ls [.ref a]) rfl ?_
  refine lv_iconst hx hb (v := i32 2) dX12_init_188 rfl ?_
  refine W.eq (g2 := F0 m 189 ls [.int (i32 2), .ref a]) rfl ?_
  refine ct_newa (k2 := 126) (t := 0) (N' := 2) hk hI dX12_init_189 rfl (wat_mem (i := 148) (by decide +kernel)) rfl rfl (fun _ _ => Iff.rfl) (fun _ => rfl) (by decide) (by decide) (Nat.le_of_ble_eq_true rfl) (Nat.le_trans (Nat.le_of_ble_eq_true rfl) hc9) (Nat.le_trans (Nat.le_of_ble_eq_true rfl) hs9) fun H hI => ?_
  rw [hrl]
  refine W.eq (g2 := F0 m 191 ls [.ref (sz + 23), .ref a]) rfl ?_
  refine ct_put (j := 26) hk hI dX12_init_191 (by decide) (by decide) (wat_mem (i := 1355) (by decide +kernel)) (cl_ty (q := 12) (by decide) 26 (by decide)) rfl rfl (by rw [hfl]; decide) rfl fun H locs hI => ?_
  exact W_cs (cells2 := 24) (slots2 := 522) rfl rfl (kk H locs _ _ rfl rfl (by rw [List.length_set]; exact hfl) (by rw [List.length_append, hrl]; rfl) hI)
theorem zb_24 (hk : KX p s m meth c w "FloatparadeModel" cX12_init 1) (hl : lv_has ls 1 [(0, .ref a)]) (hc9 : 46 ≤ R.cells) (hs9 : 2138 ≤ R.slots) (hfl : fs.length = 52) (hrl : rest.length = 24) (hI : CI w s a sz 12 fs rest H locs)
    (kk : ∀ H1 locs1 fs1 rest1, fs1 = fs.set 27 (.ref (sz + 24)) → rest1 = rest ++ [dar w 127] → fs1.length = 52 → rest1.length = 25 → CI w s a sz 12 fs1 rest1 H1 locs1 → W p l e R s m args below meth c H1 locs1 25 542 Q (F0 m 202 ls [])) : W p l e R s m args below meth c H locs 24 522 Q (F0 m 194 ls []) := by
  obtain ⟨hx, hb, hml, hown, hkw, hin⟩ := id hk
  refine lv_aload_n hx hb dX12_init_194 rfl (lv_at hl 0 rfl) ?_
  refine W.eq (g2 := F0 m 195 ls [.ref a]) rfl ?_
  refine lv_bipush hx hb (v := i32 20) dX12_init_195 (by decide) ?_
  refine W.eq (g2 := F0 m 197 ls [.int (i32 20), .ref a]) rfl ?_
  refine ct_newa (k2 := 127) (t := 0) (N' := 20) hk hI dX12_init_197 rfl (wat_mem (i := 148) (by decide +kernel)) rfl rfl (fun _ _ => Iff.rfl) (fun _ => rfl) (by decide) (by decide) (Nat.le_of_ble_eq_true rfl) (Nat.le_trans (Nat.le_of_ble_eq_true rfl) hc9) (Nat.le_trans (Nat.le_of_ble_eq_true rfl) hs9) fun H hI => ?_
  rw [hrl]
  refine W.eq (g2 := F0 m 199 ls [.ref (sz + 24), .ref a]) rfl ?_
  refine ct_put (j := 27) hk hI dX12_init_199 (by decide) (by decide) (wat_mem (i := 1356) (by decide +kernel)) (cl_ty (q := 12) (by decide) 27 (by decide)) rfl rfl (by rw [hfl]; decide) rfl fun H locs hI => ?_
  exact W_cs (cells2 := 25) (slots2 := 542) rfl rfl (kk H locs _ _ rfl rfl (by rw [List.length_set]; exact hfl) (by rw [List.length_append, hrl]; rfl) hI)
theorem zi_202 (hk : KX p s m meth c w "FloatparadeModel" cX12_init 1) (hl : lv_has ls 1 [(0, .ref a)]) (hfl : fs.length = 52) (hI : CI w s a sz 12 fs rest H locs)
    (kk : ∀ H1 locs1 fs1, fs1 = fs.set 28 (.int (i32 (-1))) → fs1.length = 52 → CI w s a sz 12 fs1 rest H1 locs1 → W p l e R s m args below meth c H1 locs1 25 542 Q (F0 m 207 ls [])) : W p l e R s m args below meth c H locs 25 542 Q (F0 m 202 ls []) := by
  obtain ⟨hx, hb, hml, hown, hkw, hin⟩ := id hk
  refine lv_aload_n hx hb dX12_init_202 rfl (lv_at hl 0 rfl) ?_
  refine W.eq (g2 := F0 m 203 ls [.ref a]) rfl ?_
  refine lv_iconst hx hb (v := i32 (-1)) dX12_init_203 rfl ?_
  refine W.eq (g2 := F0 m 204 ls [.int (i32 (-1)), .ref a]) rfl ?_
  refine ct_put (j := 28) hk hI dX12_init_204 (by decide) (by decide) (wat_mem (i := 1357) (by decide +kernel)) (cl_ty (q := 12) (by decide) 28 (by decide)) (narrow_i _).1 (narrow_i _).2 (by rw [hfl]; decide) rfl fun H locs hI => ?_
  exact kk H locs _ rfl (by rw [List.length_set]; exact hfl) hI
theorem zb_25 (hk : KX p s m meth c w "FloatparadeModel" cX12_init 1) (hl : lv_has ls 1 [(0, .ref a)]) (hc9 : 46 ≤ R.cells) (hs9 : 2138 ≤ R.slots) (hfl : fs.length = 52) (hrl : rest.length = 25) (hI : CI w s a sz 12 fs rest H locs)
    (kk : ∀ H1 locs1 fs1 rest1, fs1 = fs.set 29 (.ref (sz + 25)) → rest1 = rest ++ [dar w 129] → fs1.length = 52 → rest1.length = 26 → CI w s a sz 12 fs1 rest1 H1 locs1 → W p l e R s m args below meth c H1 locs1 26 544 Q (F0 m 214 ls [])) : W p l e R s m args below meth c H locs 25 542 Q (F0 m 207 ls []) := by
  obtain ⟨hx, hb, hml, hown, hkw, hin⟩ := id hk
  refine lv_aload_n hx hb dX12_init_207 rfl (lv_at hl 0 rfl) ?_
  refine W.eq (g2 := F0 m 208 ls [.ref a]) rfl ?_
  refine lv_iconst hx hb (v := i32 2) dX12_init_208 rfl ?_
  refine W.eq (g2 := F0 m 209 ls [.int (i32 2), .ref a]) rfl ?_
  refine ct_newa (k2 := 129) (t := 0) (N' := 2) hk hI dX12_init_209 rfl (wat_mem (i := 148) (by decide +kernel)) rfl rfl (fun _ _ => Iff.rfl) (fun _ => rfl) (by decide) (by decide) (Nat.le_of_ble_eq_true rfl) (Nat.le_trans (Nat.le_of_ble_eq_true rfl) hc9) (Nat.le_trans (Nat.le_of_ble_eq_true rfl) hs9) fun H hI => ?_
  rw [hrl]
  refine W.eq (g2 := F0 m 211 ls [.ref (sz + 25), .ref a]) rfl ?_
  refine ct_put (j := 29) hk hI dX12_init_211 (by decide) (by decide) (wat_mem (i := 1358) (by decide +kernel)) (cl_ty (q := 12) (by decide) 29 (by decide)) rfl rfl (by rw [hfl]; decide) rfl fun H locs hI => ?_
  exact W_cs (cells2 := 26) (slots2 := 544) rfl rfl (kk H locs _ _ rfl rfl (by rw [List.length_set]; exact hfl) (by rw [List.length_append, hrl]; rfl) hI)
theorem zb_26 (hk : KX p s m meth c w "FloatparadeModel" cX12_init 1) (hl : lv_has ls 1 [(0, .ref a)]) (hc9 : 46 ≤ R.cells) (hs9 : 2138 ≤ R.slots) (hfl : fs.length = 52) (hrl : rest.length = 26) (hI : CI w s a sz 12 fs rest H locs)
    (kk : ∀ H1 locs1 fs1 rest1, fs1 = fs.set 30 (.ref (sz + 26)) → rest1 = rest ++ [dar w 130] → fs1.length = 52 → rest1.length = 27 → CI w s a sz 12 fs1 rest1 H1 locs1 → W p l e R s m args below meth c H1 locs1 27 546 Q (F0 m 221 ls [])) : W p l e R s m args below meth c H locs 26 544 Q (F0 m 214 ls []) := by
  obtain ⟨hx, hb, hml, hown, hkw, hin⟩ := id hk
  refine lv_aload_n hx hb dX12_init_214 rfl (lv_at hl 0 rfl) ?_
  refine W.eq (g2 := F0 m 215 ls [.ref a]) rfl ?_
  refine lv_iconst hx hb (v := i32 2) dX12_init_215 rfl ?_
  refine W.eq (g2 := F0 m 216 ls [.int (i32 2), .ref a]) rfl ?_
  refine ct_newa (k2 := 130) (t := 0) (N' := 2) hk hI dX12_init_216 rfl (wat_mem (i := 148) (by decide +kernel)) rfl rfl (fun _ _ => Iff.rfl) (fun _ => rfl) (by decide) (by decide) (Nat.le_of_ble_eq_true rfl) (Nat.le_trans (Nat.le_of_ble_eq_true rfl) hc9) (Nat.le_trans (Nat.le_of_ble_eq_true rfl) hs9) fun H hI => ?_
  rw [hrl]
  refine W.eq (g2 := F0 m 218 ls [.ref (sz + 26), .ref a]) rfl ?_
  refine ct_put (j := 30) hk hI dX12_init_218 (by decide) (by decide) (wat_mem (i := 1359) (by decide +kernel)) (cl_ty (q := 12) (by decide) 30 (by decide)) rfl rfl (by rw [hfl]; decide) rfl fun H locs hI => ?_
  exact W_cs (cells2 := 27) (slots2 := 546) rfl rfl (kk H locs _ _ rfl rfl (by rw [List.length_set]; exact hfl) (by rw [List.length_append, hrl]; rfl) hI)
theorem zb_27 (hk : KX p s m meth c w "FloatparadeModel" cX12_init 1) (hl : lv_has ls 1 [(0, .ref a)]) (hc9 : 46 ≤ R.cells) (hs9 : 2138 ≤ R.slots) (hfl : fs.length = 52) (hrl : rest.length = 27) (hI : CI w s a sz 12 fs rest H locs)
    (kk : ∀ H1 locs1 fs1 rest1, fs1 = fs.set 31 (.ref (sz + 27)) → rest1 = rest ++ [dar w 131] → fs1.length = 52 → rest1.length = 28 → CI w s a sz 12 fs1 rest1 H1 locs1 → W p l e R s m args below meth c H1 locs1 28 548 Q (F0 m 228 ls [])) : W p l e R s m args below meth c H locs 27 546 Q (F0 m 221 ls []) := by
  obtain ⟨hx, hb, hml, hown, hkw, hin⟩ := id hk
  refine lv_aload_n hx hb dX12_init_221 rfl (lv_at hl 0 rfl) ?_
  refine W.eq (g2 := F0 m 222 ls [.ref a]) rfl ?_
  refine lv_iconst hx hb (v := i32 2) dX12_init_222 rfl ?_
  refine W.eq (g2 := F0 m 223 ls [.int (i32 2), .ref a]) rfl ?_
  refine ct_newa (k2 := 131) (t := 0) (N' := 2) hk hI dX12_init_223 rfl (wat_mem (i := 148) (by decide +kernel)) rfl rfl (fun _ _ => Iff.rfl) (fun _ => rfl) (by decide) (by decide) (Nat.le_of_ble_eq_true rfl) (Nat.le_trans (Nat.le_of_ble_eq_true rfl) hc9) (Nat.le_trans (Nat.le_of_ble_eq_true rfl) hs9) fun H hI => ?_
  rw [hrl]
  refine W.eq (g2 := F0 m 225 ls [.ref (sz + 27), .ref a]) rfl ?_
  refine ct_put (j := 31) hk hI dX12_init_225 (by decide) (by decide) (wat_mem (i := 1360) (by decide +kernel)) (cl_ty (q := 12) (by decide) 31 (by decide)) rfl rfl (by rw [hfl]; decide) rfl fun H locs hI => ?_
  exact W_cs (cells2 := 28) (slots2 := 548) rfl rfl (kk H locs _ _ rfl rfl (by rw [List.length_set]; exact hfl) (by rw [List.length_append, hrl]; rfl) hI)
theorem zb_28 (hk : KX p s m meth c w "FloatparadeModel" cX12_init 1) (hl : lv_has ls 1 [(0, .ref a)]) (hc9 : 46 ≤ R.cells) (hs9 : 2138 ≤ R.slots) (hfl : fs.length = 52) (hrl : rest.length = 28) (hI : CI w s a sz 12 fs rest H locs)
    (kk : ∀ H1 locs1 fs1 rest1, fs1 = fs.set 32 (.ref (sz + 28)) → rest1 = rest ++ [dar w 132] → fs1.length = 52 → rest1.length = 29 → CI w s a sz 12 fs1 rest1 H1 locs1 → W p l e R s m args below meth c H1 locs1 29 550 Q (F0 m 235 ls [])) : W p l e R s m args below meth c H locs 28 548 Q (F0 m 228 ls []) := by
  obtain ⟨hx, hb, hml, hown, hkw, hin⟩ := id hk
  refine lv_aload_n hx hb dX12_init_228 rfl (lv_at hl 0 rfl) ?_
  refine W.eq (g2 := F0 m 229 ls [.ref a]) rfl ?_
  refine lv_iconst hx hb (v := i32 2) dX12_init_229 rfl ?_
  refine W.eq (g2 := F0 m 230 ls [.int (i32 2), .ref a]) rfl ?_
  refine ct_newa (k2 := 132) (t := 0) (N' := 2) hk hI dX12_init_230 rfl (wat_mem (i := 148) (by decide +kernel)) rfl rfl (fun _ _ => Iff.rfl) (fun _ => rfl) (by decide) (by decide) (Nat.le_of_ble_eq_true rfl) (Nat.le_trans (Nat.le_of_ble_eq_true rfl) hc9) (Nat.le_trans (Nat.le_of_ble_eq_true rfl) hs9) fun H hI => ?_
  rw [hrl]
  refine W.eq (g2 := F0 m 232 ls [.ref (sz + 28), .ref a]) rfl ?_
  refine ct_put (j := 32) hk hI dX12_init_232 (by decide) (by decide) (wat_mem (i := 1361) (by decide +kernel)) (cl_ty (q := 12) (by decide) 32 (by decide)) rfl rfl (by rw [hfl]; decide) rfl fun H locs hI => ?_
  exact W_cs (cells2 := 29) (slots2 := 550) rfl rfl (kk H locs _ _ rfl rfl (by rw [List.length_set]; exact hfl) (by rw [List.length_append, hrl]; rfl) hI)
theorem zb_29 (hk : KX p s m meth c w "FloatparadeModel" cX12_init 1) (hl : lv_has ls 1 [(0, .ref a)]) (hc9 : 46 ≤ R.cells) (hs9 : 2138 ≤ R.slots) (hfl : fs.length = 52) (hrl : rest.length = 29) (hI : CI w s a sz 12 fs rest H locs)
    (kk : ∀ H1 locs1 fs1 rest1, fs1 = fs.set 33 (.ref (sz + 29)) → rest1 = rest ++ [dar w 133] → fs1.length = 52 → rest1.length = 30 → CI w s a sz 12 fs1 rest1 H1 locs1 → W p l e R s m args below meth c H1 locs1 30 552 Q (F0 m 242 ls [])) : W p l e R s m args below meth c H locs 29 550 Q (F0 m 235 ls []) := by
  obtain ⟨hx, hb, hml, hown, hkw, hin⟩ := id hk
  refine lv_aload_n hx hb dX12_init_235 rfl (lv_at hl 0 rfl) ?_
  refine W.eq (g2 := F0 m 236 ls [.ref a]) rfl ?_
  refine lv_iconst hx hb (v := i32 2) dX12_init_236 rfl ?_
  refine W.eq (g2 := F0 m 237 ls [.int (i32 2), .ref a]) rfl ?_
  refine ct_newa (k2 := 133) (t := 0) (N' := 2) hk hI dX12_init_237 rfl (wat_mem (i := 148) (by decide +kernel)) rfl rfl (fun _ _ => Iff.rfl) (fun _ => rfl) (by decide) (by decide) (Nat.le_of_ble_eq_true rfl) (Nat.le_trans (Nat.le_of_ble_eq_true rfl) hc9) (Nat.le_trans (Nat.le_of_ble_eq_true rfl) hs9) fun H hI => ?_
  rw [hrl]
  refine W.eq (g2 := F0 m 239 ls [.ref (sz + 29), .ref a]) rfl ?_
  refine ct_put (j := 33) hk hI dX12_init_239 (by decide) (by decide) (wat_mem (i := 1362) (by decide +kernel)) (cl_ty (q := 12) (by decide) 33 (by decide)) rfl rfl (by rw [hfl]; decide) rfl fun H locs hI => ?_
  exact W_cs (cells2 := 30) (slots2 := 552) rfl rfl (kk H locs _ _ rfl rfl (by rw [List.length_set]; exact hfl) (by rw [List.length_append, hrl]; rfl) hI)
theorem zb_30 (hk : KX p s m meth c w "FloatparadeModel" cX12_init 1) (hl : lv_has ls 1 [(0, .ref a)]) (hc9 : 46 ≤ R.cells) (hs9 : 2138 ≤ R.slots) (hfl : fs.length = 52) (hrl : rest.length = 30) (hI : CI w s a sz 12 fs rest H locs)
    (kk : ∀ H1 locs1 fs1 rest1, fs1 = fs.set 34 (.ref (sz + 30)) → rest1 = rest ++ [dar w 134] → fs1.length = 52 → rest1.length = 31 → CI w s a sz 12 fs1 rest1 H1 locs1 → W p l e R s m args below meth c H1 locs1 31 554 Q (F0 m 249 ls [])) : W p l e R s m args below meth c H locs 30 552 Q (F0 m 242 ls []) := by
  obtain ⟨hx, hb, hml, hown, hkw, hin⟩ := id hk
  refine lv_aload_n hx hb dX12_init_242 rfl (lv_at hl 0 rfl) ?_
  refine W.eq (g2 := F0 m 243 ls [.ref a]) rfl ?_
  refine lv_iconst hx hb (v := i32 2) dX12_init_243 rfl ?_
  refine W.eq (g2 := F0 m 244 ls [.int (i32 2), .ref a]) rfl ?_
  refine ct_newa (k2 := 134) (t := 0) (N' := 2) hk hI dX12_init_244 rfl (wat_mem (i := 148) (by decide +kernel)) rfl rfl (fun _ _ => Iff.rfl) (fun _ => rfl) (by decide) (by decide) (Nat.le_of_ble_eq_true rfl) (Nat.le_trans (Nat.le_of_ble_eq_true rfl) hc9) (Nat.le_trans (Nat.le_of_ble_eq_true rfl) hs9) fun H hI => ?_
  rw [hrl]
  refine W.eq (g2 := F0 m 246 ls [.ref (sz + 30), .ref a]) rfl ?_
  refine ct_put (j := 34) hk hI dX12_init_246 (by decide) (by decide) (wat_mem (i := 1363) (by decide +kernel)) (cl_ty (q := 12) (by decide) 34 (by decide)) rfl rfl (by rw [hfl]; decide) rfl fun H locs hI => ?_
  exact W_cs (cells2 := 31) (slots2 := 554) rfl rfl (kk H locs _ _ rfl rfl (by rw [List.length_set]; exact hfl) (by rw [List.length_append, hrl]; rfl) hI)
theorem zb_31 (hk : KX p s m meth c w "FloatparadeModel" cX12_init 1) (hl : lv_has ls 1 [(0, .ref a)]) (hc9 : 46 ≤ R.cells) (hs9 : 2138 ≤ R.slots) (hfl : fs.length = 52) (hrl : rest.length = 31) (hI : CI w s a sz 12 fs rest H locs)
    (kk : ∀ H1 locs1 fs1 rest1, fs1 = fs.set 35 (.ref (sz + 31)) → rest1 = rest ++ [dar w 135] → fs1.length = 52 → rest1.length = 32 → CI w s a sz 12 fs1 rest1 H1 locs1 → W p l e R s m args below meth c H1 locs1 32 674 Q (F0 m 257 ls [])) : W p l e R s m args below meth c H locs 31 554 Q (F0 m 249 ls []) := by
  obtain ⟨hx, hb, hml, hown, hkw, hin⟩ := id hk
  refine lv_aload_n hx hb dX12_init_249 rfl (lv_at hl 0 rfl) ?_
  refine W.eq (g2 := F0 m 250 ls [.ref a]) rfl ?_
  refine lv_bipush hx hb (v := i32 120) dX12_init_250 (by decide) ?_
  refine W.eq (g2 := F0 m 252 ls [.int (i32 120), .ref a]) rfl ?_
  refine ct_newa (k2 := 135) (t := 0) (N' := 120) hk hI dX12_init_252 rfl (wat_mem (i := 148) (by decide +kernel)) rfl rfl (fun _ _ => Iff.rfl) (fun _ => rfl) (by decide) (by decide) (Nat.le_of_ble_eq_true rfl) (Nat.le_trans (Nat.le_of_ble_eq_true rfl) hc9) (Nat.le_trans (Nat.le_of_ble_eq_true rfl) hs9) fun H hI => ?_
  rw [hrl]
  refine W.eq (g2 := F0 m 254 ls [.ref (sz + 31), .ref a]) rfl ?_
  refine ct_put (j := 35) hk hI dX12_init_254 (by decide) (by decide) (wat_mem (i := 1364) (by decide +kernel)) (cl_ty (q := 12) (by decide) 35 (by decide)) rfl rfl (by rw [hfl]; decide) rfl fun H locs hI => ?_
  exact W_cs (cells2 := 32) (slots2 := 674) rfl rfl (kk H locs _ _ rfl rfl (by rw [List.length_set]; exact hfl) (by rw [List.length_append, hrl]; rfl) hI)
theorem zb_32 (hk : KX p s m meth c w "FloatparadeModel" cX12_init 1) (hl : lv_has ls 1 [(0, .ref a)]) (hc9 : 46 ≤ R.cells) (hs9 : 2138 ≤ R.slots) (hfl : fs.length = 52) (hrl : rest.length = 32) (hI : CI w s a sz 12 fs rest H locs)
    (kk : ∀ H1 locs1 fs1 rest1, fs1 = fs.set 36 (.ref (sz + 32)) → rest1 = rest ++ [dar w 136] → fs1.length = 52 → rest1.length = 33 → CI w s a sz 12 fs1 rest1 H1 locs1 → W p l e R s m args below meth c H1 locs1 33 794 Q (F0 m 265 ls [])) : W p l e R s m args below meth c H locs 32 674 Q (F0 m 257 ls []) := by
  obtain ⟨hx, hb, hml, hown, hkw, hin⟩ := id hk
  refine lv_aload_n hx hb dX12_init_257 rfl (lv_at hl 0 rfl) ?_
  refine W.eq (g2 := F0 m 258 ls [.ref a]) rfl ?_
  refine lv_bipush hx hb (v := i32 120) dX12_init_258 (by decide) ?_
  refine W.eq (g2 := F0 m 260 ls [.int (i32 120), .ref a]) rfl ?_
  refine ct_newa (k2 := 136) (t := 0) (N' := 120) hk hI dX12_init_260 rfl (wat_mem (i := 148) (by decide +kernel)) rfl rfl (fun _ _ => Iff.rfl) (fun _ => rfl) (by decide) (by decide) (Nat.le_of_ble_eq_true rfl) (Nat.le_trans (Nat.le_of_ble_eq_true rfl) hc9) (Nat.le_trans (Nat.le_of_ble_eq_true rfl) hs9) fun H hI => ?_
  rw [hrl]
  refine W.eq (g2 := F0 m 262 ls [.ref (sz + 32), .ref a]) rfl ?_
  refine ct_put (j := 36) hk hI dX12_init_262 (by decide) (by decide) (wat_mem (i := 1365) (by decide +kernel)) (cl_ty (q := 12) (by decide) 36 (by decide)) rfl rfl (by rw [hfl]; decide) rfl fun H locs hI => ?_
  exact W_cs (cells2 := 33) (slots2 := 794) rfl rfl (kk H locs _ _ rfl rfl (by rw [List.length_set]; exact hfl) (by rw [List.length_append, hrl]; rfl) hI)
theorem zb_33 (hk : KX p s m meth c w "FloatparadeModel" cX12_init 1) (hl : lv_has ls 1 [(0, .ref a)]) (hc9 : 46 ≤ R.cells) (hs9 : 2138 ≤ R.slots) (hfl : fs.length = 52) (hrl : rest.length = 33) (hI : CI w s a sz 12 fs rest H locs)
    (kk : ∀ H1 locs1 fs1 rest1, fs1 = fs.set 37 (.ref (sz + 33)) → rest1 = rest ++ [dar w 137] → fs1.length = 52 → rest1.length = 34 → CI w s a sz 12 fs1 rest1 H1 locs1 → W p l e R s m args below meth c H1 locs1 34 914 Q (F0 m 273 ls [])) : W p l e R s m args below meth c H locs 33 794 Q (F0 m 265 ls []) := by
  obtain ⟨hx, hb, hml, hown, hkw, hin⟩ := id hk
  refine lv_aload_n hx hb dX12_init_265 rfl (lv_at hl 0 rfl) ?_
  refine W.eq (g2 := F0 m 266 ls [.ref a]) rfl ?_
  refine lv_bipush hx hb (v := i32 120) dX12_init_266 (by decide) ?_
  refine W.eq (g2 := F0 m 268 ls [.int (i32 120), .ref a]) rfl ?_
  refine ct_newa (k2 := 137) (t := 0) (N' := 120) hk hI dX12_init_268 rfl (wat_mem (i := 148) (by decide +kernel)) rfl rfl (fun _ _ => Iff.rfl) (fun _ => rfl) (by decide) (by decide) (Nat.le_of_ble_eq_true rfl) (Nat.le_trans (Nat.le_of_ble_eq_true rfl) hc9) (Nat.le_trans (Nat.le_of_ble_eq_true rfl) hs9) fun H hI => ?_
  rw [hrl]
  refine W.eq (g2 := F0 m 270 ls [.ref (sz + 33), .ref a]) rfl ?_
  refine ct_put (j := 37) hk hI dX12_init_270 (by decide) (by decide) (wat_mem (i := 1366) (by decide +kernel)) (cl_ty (q := 12) (by decide) 37 (by decide)) rfl rfl (by rw [hfl]; decide) rfl fun H locs hI => ?_
  exact W_cs (cells2 := 34) (slots2 := 914) rfl rfl (kk H locs _ _ rfl rfl (by rw [List.length_set]; exact hfl) (by rw [List.length_append, hrl]; rfl) hI)
theorem zb_34 (hk : KX p s m meth c w "FloatparadeModel" cX12_init 1) (hl : lv_has ls 1 [(0, .ref a)]) (hc9 : 46 ≤ R.cells) (hs9 : 2138 ≤ R.slots) (hfl : fs.length = 52) (hrl : rest.length = 34) (hI : CI w s a sz 12 fs rest H locs)
    (kk : ∀ H1 locs1 fs1 rest1, fs1 = fs.set 38 (.ref (sz + 34)) → rest1 = rest ++ [dar w 138] → fs1.length = 52 → rest1.length = 35 → CI w s a sz 12 fs1 rest1 H1 locs1 → W p l e R s m args below meth c H1 locs1 35 1034 Q (F0 m 281 ls [])) : W p l e R s m args below meth c H locs 34 914 Q (F0 m 273 ls []) := by
  obtain ⟨hx, hb, hml, hown, hkw, hin⟩ := id hk
  refine lv_aload_n hx hb dX12_init_273 rfl (lv_at hl 0 rfl) ?_
  refine W.eq (g2 := F0 m 274 ls [.ref a]) rfl ?_
  refine lv_bipush hx hb (v := i32 120) dX12_init_274 (by decide) ?_
  refine W.eq (g2 := F0 m 276 ls [.int (i32 120), .ref a]) rfl ?_
  refine ct_newa (k2 := 138) (t := 0) (N' := 120) hk hI dX12_init_276 rfl (wat_mem (i := 148) (by decide +kernel)) rfl rfl (fun _ _ => Iff.rfl) (fun _ => rfl) (by decide) (by decide) (Nat.le_of_ble_eq_true rfl) (Nat.le_trans (Nat.le_of_ble_eq_true rfl) hc9) (Nat.le_trans (Nat.le_of_ble_eq_true rfl) hs9) fun H hI => ?_
  rw [hrl]
  refine W.eq (g2 := F0 m 278 ls [.ref (sz + 34), .ref a]) rfl ?_
  refine ct_put (j := 38) hk hI dX12_init_278 (by decide) (by decide) (wat_mem (i := 1367) (by decide +kernel)) (cl_ty (q := 12) (by decide) 38 (by decide)) rfl rfl (by rw [hfl]; decide) rfl fun H locs hI => ?_
  exact W_cs (cells2 := 35) (slots2 := 1034) rfl rfl (kk H locs _ _ rfl rfl (by rw [List.length_set]; exact hfl) (by rw [List.length_append, hrl]; rfl) hI)
theorem zb_35 (hk : KX p s m meth c w "FloatparadeModel" cX12_init 1) (hl : lv_has ls 1 [(0, .ref a)]) (hc9 : 46 ≤ R.cells) (hs9 : 2138 ≤ R.slots) (hfl : fs.length = 52) (hrl : rest.length = 35) (hI : CI w s a sz 12 fs rest H locs)
    (kk : ∀ H1 locs1 fs1 rest1, fs1 = fs.set 39 (.ref (sz + 35)) → rest1 = rest ++ [dar w 139] → fs1.length = 52 → rest1.length = 36 → CI w s a sz 12 fs1 rest1 H1 locs1 → W p l e R s m args below meth c H1 locs1 36 1154 Q (F0 m 289 ls [])) : W p l e R s m args below meth c H locs 35 1034 Q (F0 m 281 ls []) := by
  obtain ⟨hx, hb, hml, hown, hkw, hin⟩ := id hk
  refine lv_aload_n hx hb dX12_init_281 rfl (lv_at hl 0 rfl) ?_
  refine W.eq (g2 := F0 m 282 ls [.ref a]) rfl ?_
  refine lv_bipush hx hb (v := i32 120) dX12_init_282 (by decide) ?_
  refine W.eq (g2 := F0 m 284 ls [.int (i32 120), .ref a]) rfl ?_
  refine ct_newa (k2 := 139) (t := 0) (N' := 120) hk hI dX12_init_284 rfl (wat_mem (i := 148) (by decide +kernel)) rfl rfl (fun _ _ => Iff.rfl) (fun _ => rfl) (by decide) (by decide) (Nat.le_of_ble_eq_true rfl) (Nat.le_trans (Nat.le_of_ble_eq_true rfl) hc9) (Nat.le_trans (Nat.le_of_ble_eq_true rfl) hs9) fun H hI => ?_
  rw [hrl]
  refine W.eq (g2 := F0 m 286 ls [.ref (sz + 35), .ref a]) rfl ?_
  refine ct_put (j := 39) hk hI dX12_init_286 (by decide) (by decide) (wat_mem (i := 1368) (by decide +kernel)) (cl_ty (q := 12) (by decide) 39 (by decide)) rfl rfl (by rw [hfl]; decide) rfl fun H locs hI => ?_
  exact W_cs (cells2 := 36) (slots2 := 1154) rfl rfl (kk H locs _ _ rfl rfl (by rw [List.length_set]; exact hfl) (by rw [List.length_append, hrl]; rfl) hI)
theorem zb_36 (hk : KX p s m meth c w "FloatparadeModel" cX12_init 1) (hl : lv_has ls 1 [(0, .ref a)]) (hc9 : 46 ≤ R.cells) (hs9 : 2138 ≤ R.slots) (hfl : fs.length = 52) (hrl : rest.length = 36) (hI : CI w s a sz 12 fs rest H locs)
    (kk : ∀ H1 locs1 fs1 rest1, fs1 = fs.set 40 (.ref (sz + 36)) → rest1 = rest ++ [dar w 140] → fs1.length = 52 → rest1.length = 37 → CI w s a sz 12 fs1 rest1 H1 locs1 → W p l e R s m args below meth c H1 locs1 37 1274 Q (F0 m 297 ls [])) : W p l e R s m args below meth c H locs 36 1154 Q (F0 m 289 ls []) := by
  obtain ⟨hx, hb, hml, hown, hkw, hin⟩ := id hk
  refine lv_aload_n hx hb dX12_init_289 rfl (lv_at hl 0 rfl) ?_
  refine W.eq (g2 := F0 m 290 ls [.ref a]) rfl ?_
  refine lv_bipush hx hb (v := i32 120) dX12_init_290 (by decide) ?_
  refine W.eq (g2 := F0 m 292 ls [.int (i32 120), .ref a]) rfl ?_
  refine ct_newa (k2 := 140) (t := 1) (N' := 120) hk hI dX12_init_292 rfl (wat_mem (i := 121) (by decide +kernel)) rfl rfl (fun _ _ => Iff.rfl) (fun _ => rfl) (by decide) (by decide) (Nat.le_of_ble_eq_true rfl) (Nat.le_trans (Nat.le_of_ble_eq_true rfl) hc9) (Nat.le_trans (Nat.le_of_ble_eq_true rfl) hs9) fun H hI => ?_
  rw [hrl]
  refine W.eq (g2 := F0 m 294 ls [.ref (sz + 36), .ref a]) rfl ?_
  refine ct_put (j := 40) hk hI dX12_init_294 (by decide) (by decide) (wat_mem (i := 1369) (by decide +kernel)) (cl_ty (q := 12) (by decide) 40 (by decide)) rfl rfl (by rw [hfl]; decide) rfl fun H locs hI => ?_
  exact W_cs (cells2 := 37) (slots2 := 1274) rfl rfl (kk H locs _ _ rfl rfl (by rw [List.length_set]; exact hfl) (by rw [List.length_append, hrl]; rfl) hI)
theorem zb_37 (hk : KX p s m meth c w "FloatparadeModel" cX12_init 1) (hl : lv_has ls 1 [(0, .ref a)]) (hc9 : 46 ≤ R.cells) (hs9 : 2138 ≤ R.slots) (hfl : fs.length = 52) (hrl : rest.length = 37) (hI : CI w s a sz 12 fs rest H locs)
    (kk : ∀ H1 locs1 fs1 rest1, fs1 = fs.set 41 (.ref (sz + 37)) → rest1 = rest ++ [dar w 141] → fs1.length = 52 → rest1.length = 38 → CI w s a sz 12 fs1 rest1 H1 locs1 → W p l e R s m args below meth c H1 locs1 38 1298 Q (F0 m 305 ls [])) : W p l e R s m args below meth c H locs 37 1274 Q (F0 m 297 ls []) := by
  obtain ⟨hx, hb, hml, hown, hkw, hin⟩ := id hk
  refine lv_aload_n hx hb dX12_init_297 rfl (lv_at hl 0 rfl) ?_
  refine W.eq (g2 := F0 m 298 ls [.ref a]) rfl ?_
  refine lv_bipush hx hb (v := i32 24) dX12_init_298 (by decide) ?_
  refine W.eq (g2 := F0 m 300 ls [.int (i32 24), .ref a]) rfl ?_
  refine ct_newa (k2 := 141) (t := 0) (N' := 24) hk hI dX12_init_300 rfl (wat_mem (i := 148) (by decide +kernel)) rfl rfl (fun _ _ => Iff.rfl) (fun _ => rfl) (by decide) (by decide) (Nat.le_of_ble_eq_true rfl) (Nat.le_trans (Nat.le_of_ble_eq_true rfl) hc9) (Nat.le_trans (Nat.le_of_ble_eq_true rfl) hs9) fun H hI => ?_
  rw [hrl]
  refine W.eq (g2 := F0 m 302 ls [.ref (sz + 37), .ref a]) rfl ?_
  refine ct_put (j := 41) hk hI dX12_init_302 (by decide) (by decide) (wat_mem (i := 1370) (by decide +kernel)) (cl_ty (q := 12) (by decide) 41 (by decide)) rfl rfl (by rw [hfl]; decide) rfl fun H locs hI => ?_
  exact W_cs (cells2 := 38) (slots2 := 1298) rfl rfl (kk H locs _ _ rfl rfl (by rw [List.length_set]; exact hfl) (by rw [List.length_append, hrl]; rfl) hI)
theorem zb_38 (hk : KX p s m meth c w "FloatparadeModel" cX12_init 1) (hl : lv_has ls 1 [(0, .ref a)]) (hc9 : 46 ≤ R.cells) (hs9 : 2138 ≤ R.slots) (hfl : fs.length = 52) (hrl : rest.length = 38) (hI : CI w s a sz 12 fs rest H locs)
    (kk : ∀ H1 locs1 fs1 rest1, fs1 = fs.set 43 (.ref (sz + 38)) → rest1 = rest ++ [dar w 143] → fs1.length = 52 → rest1.length = 39 → CI w s a sz 12 fs1 rest1 H1 locs1 → W p l e R s m args below meth c H1 locs1 39 1308 Q (F0 m 313 ls [])) : W p l e R s m args below meth c H locs 38 1298 Q (F0 m 305 ls []) := by
  obtain ⟨hx, hb, hml, hown, hkw, hin⟩ := id hk
  refine lv_aload_n hx hb dX12_init_305 rfl (lv_at hl 0 rfl) ?_
  refine W.eq (g2 := F0 m 306 ls [.ref a]) rfl ?_
  refine lv_bipush hx hb (v := i32 10) dX12_init_306 (by decide) ?_
  refine W.eq (g2 := F0 m 308 ls [.int (i32 10), .ref a]) rfl ?_
  refine ct_newa (k2 := 143) (t := 0) (N' := 10) hk hI dX12_init_308 rfl (wat_mem (i := 148) (by decide +kernel)) rfl rfl (fun _ _ => Iff.rfl) (fun _ => rfl) (by decide) (by decide) (Nat.le_of_ble_eq_true rfl) (Nat.le_trans (Nat.le_of_ble_eq_true rfl) hc9) (Nat.le_trans (Nat.le_of_ble_eq_true rfl) hs9) fun H hI => ?_
  rw [hrl]
  refine W.eq (g2 := F0 m 310 ls [.ref (sz + 38), .ref a]) rfl ?_
  refine ct_put (j := 43) hk hI dX12_init_310 (by decide) (by decide) (wat_mem (i := 1372) (by decide +kernel)) (cl_ty (q := 12) (by decide) 43 (by decide)) rfl rfl (by rw [hfl]; decide) rfl fun H locs hI => ?_
  exact W_cs (cells2 := 39) (slots2 := 1308) rfl rfl (kk H locs _ _ rfl rfl (by rw [List.length_set]; exact hfl) (by rw [List.length_append, hrl]; rfl) hI)
theorem zb_39 (hk : KX p s m meth c w "FloatparadeModel" cX12_init 1) (hl : lv_has ls 1 [(0, .ref a)]) (hc9 : 46 ≤ R.cells) (hs9 : 2138 ≤ R.slots) (hfl : fs.length = 52) (hrl : rest.length = 39) (hI : CI w s a sz 12 fs rest H locs)
    (kk : ∀ H1 locs1 fs1 rest1, fs1 = fs.set 44 (.ref (sz + 39)) → rest1 = rest ++ [dar w 144] → fs1.length = 52 → rest1.length = 40 → CI w s a sz 12 fs1 rest1 H1 locs1 → W p l e R s m args below meth c H1 locs1 40 1318 Q (F0 m 321 ls [])) : W p l e R s m args below meth c H locs 39 1308 Q (F0 m 313 ls []) := by
  obtain ⟨hx, hb, hml, hown, hkw, hin⟩ := id hk
  refine lv_aload_n hx hb dX12_init_313 rfl (lv_at hl 0 rfl) ?_
  refine W.eq (g2 := F0 m 314 ls [.ref a]) rfl ?_
  refine lv_bipush hx hb (v := i32 10) dX12_init_314 (by decide) ?_
  refine W.eq (g2 := F0 m 316 ls [.int (i32 10), .ref a]) rfl ?_
  refine ct_newa (k2 := 144) (t := 0) (N' := 10) hk hI dX12_init_316 rfl (wat_mem (i := 148) (by decide +kernel)) rfl rfl (fun _ _ => Iff.rfl) (fun _ => rfl) (by decide) (by decide) (Nat.le_of_ble_eq_true rfl) (Nat.le_trans (Nat.le_of_ble_eq_true rfl) hc9) (Nat.le_trans (Nat.le_of_ble_eq_true rfl) hs9) fun H hI => ?_
  rw [hrl]
  refine W.eq (g2 := F0 m 318 ls [.ref (sz + 39), .ref a]) rfl ?_
  refine ct_put (j := 44) hk hI dX12_init_318 (by decide) (by decide) (wat_mem (i := 1373) (by decide +kernel)) (cl_ty (q := 12) (by decide) 44 (by decide)) rfl rfl (by rw [hfl]; decide) rfl fun H locs hI => ?_
  exact W_cs (cells2 := 40) (slots2 := 1318) rfl rfl (kk H locs _ _ rfl rfl (by rw [List.length_set]; exact hfl) (by rw [List.length_append, hrl]; rfl) hI)
theorem zb_40 (hk : KX p s m meth c w "FloatparadeModel" cX12_init 1) (hl : lv_has ls 1 [(0, .ref a)]) (hc9 : 46 ≤ R.cells) (hs9 : 2138 ≤ R.slots) (hfl : fs.length = 52) (hrl : rest.length = 40) (hI : CI w s a sz 12 fs rest H locs)
    (kk : ∀ H1 locs1 fs1 rest1, fs1 = fs.set 45 (.ref (sz + 40)) → rest1 = rest ++ [dar w 145] → fs1.length = 52 → rest1.length = 41 → CI w s a sz 12 fs1 rest1 H1 locs1 → W p l e R s m args below meth c H1 locs1 41 1328 Q (F0 m 329 ls [])) : W p l e R s m args below meth c H locs 40 1318 Q (F0 m 321 ls []) := by
  obtain ⟨hx, hb, hml, hown, hkw, hin⟩ := id hk
  refine lv_aload_n hx hb dX12_init_321 rfl (lv_at hl 0 rfl) ?_
  refine W.eq (g2 := F0 m 322 ls [.ref a]) rfl ?_
  refine lv_bipush hx hb (v := i32 10) dX12_init_322 (by decide) ?_
  refine W.eq (g2 := F0 m 324 ls [.int (i32 10), .ref a]) rfl ?_
  refine ct_newa (k2 := 145) (t := 0) (N' := 10) hk hI dX12_init_324 rfl (wat_mem (i := 148) (by decide +kernel)) rfl rfl (fun _ _ => Iff.rfl) (fun _ => rfl) (by decide) (by decide) (Nat.le_of_ble_eq_true rfl) (Nat.le_trans (Nat.le_of_ble_eq_true rfl) hc9) (Nat.le_trans (Nat.le_of_ble_eq_true rfl) hs9) fun H hI => ?_
  rw [hrl]
  refine W.eq (g2 := F0 m 326 ls [.ref (sz + 40), .ref a]) rfl ?_
  refine ct_put (j := 45) hk hI dX12_init_326 (by decide) (by decide) (wat_mem (i := 1374) (by decide +kernel)) (cl_ty (q := 12) (by decide) 45 (by decide)) rfl rfl (by rw [hfl]; decide) rfl fun H locs hI => ?_
  exact W_cs (cells2 := 41) (slots2 := 1328) rfl rfl (kk H locs _ _ rfl rfl (by rw [List.length_set]; exact hfl) (by rw [List.length_append, hrl]; rfl) hI)
theorem zb_41 (hk : KX p s m meth c w "FloatparadeModel" cX12_init 1) (hl : lv_has ls 1 [(0, .ref a)]) (hc9 : 46 ≤ R.cells) (hs9 : 2138 ≤ R.slots) (hfl : fs.length = 52) (hrl : rest.length = 41) (hI : CI w s a sz 12 fs rest H locs)
    (kk : ∀ H1 locs1 fs1 rest1, fs1 = fs.set 46 (.ref (sz + 41)) → rest1 = rest ++ [dar w 146] → fs1.length = 52 → rest1.length = 42 → CI w s a sz 12 fs1 rest1 H1 locs1 → W p l e R s m args below meth c H1 locs1 42 1528 Q (F0 m 338 ls [])) : W p l e R s m args below meth c H locs 41 1328 Q (F0 m 329 ls []) := by
  obtain ⟨hx, hb, hml, hown, hkw, hin⟩ := id hk
  refine lv_aload_n hx hb dX12_init_329 rfl (lv_at hl 0 rfl) ?_
  refine W.eq (g2 := F0 m 330 ls [.ref a]) rfl ?_
  refine lv_sipush hx hb (v := i32 200) dX12_init_330 (by decide) ?_
  refine W.eq (g2 := F0 m 333 ls [.int (i32 200), .ref a]) rfl ?_
  refine ct_newa (k2 := 146) (t := 0) (N' := 200) hk hI dX12_init_333 rfl (wat_mem (i := 148) (by decide +kernel)) rfl rfl (fun _ _ => Iff.rfl) (fun _ => rfl) (by decide) (by decide) (Nat.le_of_ble_eq_true rfl) (Nat.le_trans (Nat.le_of_ble_eq_true rfl) hc9) (Nat.le_trans (Nat.le_of_ble_eq_true rfl) hs9) fun H hI => ?_
  rw [hrl]
  refine W.eq (g2 := F0 m 335 ls [.ref (sz + 41), .ref a]) rfl ?_
  refine ct_put (j := 46) hk hI dX12_init_335 (by decide) (by decide) (wat_mem (i := 1375) (by decide +kernel)) (cl_ty (q := 12) (by decide) 46 (by decide)) rfl rfl (by rw [hfl]; decide) rfl fun H locs hI => ?_
  exact W_cs (cells2 := 42) (slots2 := 1528) rfl rfl (kk H locs _ _ rfl rfl (by rw [List.length_set]; exact hfl) (by rw [List.length_append, hrl]; rfl) hI)
theorem zb_42 (hk : KX p s m meth c w "FloatparadeModel" cX12_init 1) (hl : lv_has ls 1 [(0, .ref a)]) (hc9 : 46 ≤ R.cells) (hs9 : 2138 ≤ R.slots) (hfl : fs.length = 52) (hrl : rest.length = 42) (hI : CI w s a sz 12 fs rest H locs)
    (kk : ∀ H1 locs1 fs1 rest1, fs1 = fs.set 47 (.ref (sz + 42)) → rest1 = rest ++ [dar w 147] → fs1.length = 52 → rest1.length = 43 → CI w s a sz 12 fs1 rest1 H1 locs1 → W p l e R s m args below meth c H1 locs1 43 1538 Q (F0 m 346 ls [])) : W p l e R s m args below meth c H locs 42 1528 Q (F0 m 338 ls []) := by
  obtain ⟨hx, hb, hml, hown, hkw, hin⟩ := id hk
  refine lv_aload_n hx hb dX12_init_338 rfl (lv_at hl 0 rfl) ?_
  refine W.eq (g2 := F0 m 339 ls [.ref a]) rfl ?_
  refine lv_bipush hx hb (v := i32 10) dX12_init_339 (by decide) ?_
  refine W.eq (g2 := F0 m 341 ls [.int (i32 10), .ref a]) rfl ?_
  refine ct_newa (k2 := 147) (t := 0) (N' := 10) hk hI dX12_init_341 rfl (wat_mem (i := 148) (by decide +kernel)) rfl rfl (fun _ _ => Iff.rfl) (fun _ => rfl) (by decide) (by decide) (Nat.le_of_ble_eq_true rfl) (Nat.le_trans (Nat.le_of_ble_eq_true rfl) hc9) (Nat.le_trans (Nat.le_of_ble_eq_true rfl) hs9) fun H hI => ?_
  rw [hrl]
  refine W.eq (g2 := F0 m 343 ls [.ref (sz + 42), .ref a]) rfl ?_
  refine ct_put (j := 47) hk hI dX12_init_343 (by decide) (by decide) (wat_mem (i := 1376) (by decide +kernel)) (cl_ty (q := 12) (by decide) 47 (by decide)) rfl rfl (by rw [hfl]; decide) rfl fun H locs hI => ?_
  exact W_cs (cells2 := 43) (slots2 := 1538) rfl rfl (kk H locs _ _ rfl rfl (by rw [List.length_set]; exact hfl) (by rw [List.length_append, hrl]; rfl) hI)
theorem zb_43 (hk : KX p s m meth c w "FloatparadeModel" cX12_init 1) (hl : lv_has ls 1 [(0, .ref a)]) (hc9 : 46 ≤ R.cells) (hs9 : 2138 ≤ R.slots) (hfl : fs.length = 52) (hrl : rest.length = 43) (hI : CI w s a sz 12 fs rest H locs)
    (kk : ∀ H1 locs1 fs1 rest1, fs1 = fs.set 48 (.ref (sz + 43)) → rest1 = rest ++ [dar w 148] → fs1.length = 52 → rest1.length = 44 → CI w s a sz 12 fs1 rest1 H1 locs1 → W p l e R s m args below meth c H1 locs1 44 1738 Q (F0 m 355 ls [])) : W p l e R s m args below meth c H locs 43 1538 Q (F0 m 346 ls []) := by
  obtain ⟨hx, hb, hml, hown, hkw, hin⟩ := id hk
  refine lv_aload_n hx hb dX12_init_346 rfl (lv_at hl 0 rfl) ?_
  refine W.eq (g2 := F0 m 347 ls [.ref a]) rfl ?_
  refine lv_sipush hx hb (v := i32 200) dX12_init_347 (by decide) ?_
  refine W.eq (g2 := F0 m 350 ls [.int (i32 200), .ref a]) rfl ?_
  refine ct_newa (k2 := 148) (t := 0) (N' := 200) hk hI dX12_init_350 rfl (wat_mem (i := 148) (by decide +kernel)) rfl rfl (fun _ _ => Iff.rfl) (fun _ => rfl) (by decide) (by decide) (Nat.le_of_ble_eq_true rfl) (Nat.le_trans (Nat.le_of_ble_eq_true rfl) hc9) (Nat.le_trans (Nat.le_of_ble_eq_true rfl) hs9) fun H hI => ?_
  rw [hrl]
  refine W.eq (g2 := F0 m 352 ls [.ref (sz + 43), .ref a]) rfl ?_
  refine ct_put (j := 48) hk hI dX12_init_352 (by decide) (by decide) (wat_mem (i := 1377) (by decide +kernel)) (cl_ty (q := 12) (by decide) 48 (by decide)) rfl rfl (by rw [hfl]; decide) rfl fun H locs hI => ?_
  exact W_cs (cells2 := 44) (slots2 := 1738) rfl rfl (kk H locs _ _ rfl rfl (by rw [List.length_set]; exact hfl) (by rw [List.length_append, hrl]; rfl) hI)
theorem zb_44 (hk : KX p s m meth c w "FloatparadeModel" cX12_init 1) (hl : lv_has ls 1 [(0, .ref a)]) (hc9 : 46 ≤ R.cells) (hs9 : 2138 ≤ R.slots) (hfl : fs.length = 52) (hrl : rest.length = 44) (hI : CI w s a sz 12 fs rest H locs)
    (kk : ∀ H1 locs1 fs1 rest1, fs1 = fs.set 49 (.ref (sz + 44)) → rest1 = rest ++ [dar w 149] → fs1.length = 52 → rest1.length = 45 → CI w s a sz 12 fs1 rest1 H1 locs1 → W p l e R s m args below meth c H1 locs1 45 1938 Q (F0 m 364 ls [])) : W p l e R s m args below meth c H locs 44 1738 Q (F0 m 355 ls []) := by
  obtain ⟨hx, hb, hml, hown, hkw, hin⟩ := id hk
  refine lv_aload_n hx hb dX12_init_355 rfl (lv_at hl 0 rfl) ?_
  refine W.eq (g2 := F0 m 356 ls [.ref a]) rfl ?_
  refine lv_sipush hx hb (v := i32 200) dX12_init_356 (by decide) ?_
  refine W.eq (g2 := F0 m 359 ls [.int (i32 200), .ref a]) rfl ?_
  refine ct_newa (k2 := 149) (t := 0) (N' := 200) hk hI dX12_init_359 rfl (wat_mem (i := 148) (by decide +kernel)) rfl rfl (fun _ _ => Iff.rfl) (fun _ => rfl) (by decide) (by decide) (Nat.le_of_ble_eq_true rfl) (Nat.le_trans (Nat.le_of_ble_eq_true rfl) hc9) (Nat.le_trans (Nat.le_of_ble_eq_true rfl) hs9) fun H hI => ?_
  rw [hrl]
  refine W.eq (g2 := F0 m 361 ls [.ref (sz + 44), .ref a]) rfl ?_
  refine ct_put (j := 49) hk hI dX12_init_361 (by decide) (by decide) (wat_mem (i := 1378) (by decide +kernel)) (cl_ty (q := 12) (by decide) 49 (by decide)) rfl rfl (by rw [hfl]; decide) rfl fun H locs hI => ?_
  exact W_cs (cells2 := 45) (slots2 := 1938) rfl rfl (kk H locs _ _ rfl rfl (by rw [List.length_set]; exact hfl) (by rw [List.length_append, hrl]; rfl) hI)
theorem zb_45 (hk : KX p s m meth c w "FloatparadeModel" cX12_init 1) (hl : lv_has ls 1 [(0, .ref a)]) (hc9 : 46 ≤ R.cells) (hs9 : 2138 ≤ R.slots) (hfl : fs.length = 52) (hrl : rest.length = 45) (hI : CI w s a sz 12 fs rest H locs)
    (kk : ∀ H1 locs1 fs1 rest1, fs1 = fs.set 50 (.ref (sz + 45)) → rest1 = rest ++ [dar w 150] → fs1.length = 52 → rest1.length = 46 → CI w s a sz 12 fs1 rest1 H1 locs1 → W p l e R s m args below meth c H1 locs1 46 2138 Q (F0 m 373 ls [])) : W p l e R s m args below meth c H locs 45 1938 Q (F0 m 364 ls []) := by
  obtain ⟨hx, hb, hml, hown, hkw, hin⟩ := id hk
  refine lv_aload_n hx hb dX12_init_364 rfl (lv_at hl 0 rfl) ?_
  refine W.eq (g2 := F0 m 365 ls [.ref a]) rfl ?_
  refine lv_sipush hx hb (v := i32 200) dX12_init_365 (by decide) ?_
  refine W.eq (g2 := F0 m 368 ls [.int (i32 200), .ref a]) rfl ?_
  refine ct_newa (k2 := 150) (t := 1) (N' := 200) hk hI dX12_init_368 rfl (wat_mem (i := 121) (by decide +kernel)) rfl rfl (fun _ _ => Iff.rfl) (fun _ => rfl) (by decide) (by decide) (Nat.le_of_ble_eq_true rfl) (Nat.le_trans (Nat.le_of_ble_eq_true rfl) hc9) (Nat.le_trans (Nat.le_of_ble_eq_true rfl) hs9) fun H hI => ?_
  rw [hrl]
  refine W.eq (g2 := F0 m 370 ls [.ref (sz + 45), .ref a]) rfl ?_
  refine ct_put (j := 50) hk hI dX12_init_370 (by decide) (by decide) (wat_mem (i := 1379) (by decide +kernel)) (cl_ty (q := 12) (by decide) 50 (by decide)) rfl rfl (by rw [hfl]; decide) rfl fun H locs hI => ?_
  exact W_cs (cells2 := 46) (slots2 := 2138) rfl rfl (kk H locs _ _ rfl rfl (by rw [List.length_set]; exact hfl) (by rw [List.length_append, hrl]; rfl) hI)
theorem zs_0 (hk : KX p s m meth c w "FloatparadeModel" cX12_init 1) (hl : lv_has ls 1 [(0, .ref a)]) (h29 : fs[29]? = some (.ref (sz + 25))) (h25 : rest[25]? = some (.inl (w.2.1 0, 2, .inl (fun _ => 0)))) (hI : CI w s a sz 12 fs rest H locs)
    (kk : ∀ H1 locs1, CI w s a sz 12 fs (rest.set 25 (.inl (w.2.1 0, 2, .inl (va_up (fun _ => 0) 0 (i32 (-1)))))) H1 locs1 → W p l e R s m args below meth c H1 locs1 46 2138 Q (F0 m 380 ls [])) : W p l e R s m args below meth c H locs 46 2138 Q (F0 m 373 ls []) := by
  obtain ⟨hx, hb, hml, hown, hkw, hin⟩ := id hk
  refine lv_aload_n hx hb dX12_init_373 rfl (lv_at hl 0 rfl) ?_
  refine W.eq (g2 := F0 m 374 ls [.ref a]) rfl ?_
  refine ct_get (j := 29) hk hI dX12_init_374 (by decide) (by decide) (wat_mem (i := 1358) (by decide +kernel)) h29 ?_
  refine W.eq (g2 := F0 m 377 ls [.ref (sz + 25)]) rfl ?_
  refine lv_iconst hx hb (v := i32 0) dX12_init_377 rfl ?_
  refine W.eq (g2 := F0 m 378 ls [.int (i32 0), .ref (sz + 25)]) rfl ?_
  refine lv_iconst hx hb (v := i32 (-1)) dX12_init_378 rfl ?_
  refine W.eq (g2 := F0 m 379 ls [.int (i32 (-1)), .int (i32 0), .ref (sz + 25)]) rfl ?_
  refine ct_iast (i9 := 25) (n := 2) (f := (fun _ => 0)) (x := (i32 (-1))) hk hI dX12_init_379 h25 (by unfold vp_in; decide) fun H locs hI => ?_
  exact kk H locs hI
theorem zs_1 (hk : KX p s m meth c w "FloatparadeModel" cX12_init 1) (hl : lv_has ls 1 [(0, .ref a)]) (h29 : fs[29]? = some (.ref (sz + 25))) (h25 : rest[25]? = some (.inl (w.2.1 0, 2, .inl (va_up (fun _ => 0) 0 (i32 (-1)))))) (hI : CI w s a sz 12 fs rest H locs)
    (kk : ∀ H1 locs1, CI w s a sz 12 fs (rest.set 25 (.inl (w.2.1 0, 2, .inl (va_up (va_up (fun _ => 0) 0 (i32 (-1))) 1 (i32 (-1)))))) H1 locs1 → W p l e R s m args below meth c H1 locs1 46 2138 Q (F0 m 387 ls [])) : W p l e R s m args below meth c H locs 46 2138 Q (F0 m 380 ls []) := by
  obtain ⟨hx, hb, hml, hown, hkw, hin⟩ := id hk
  refine lv_aload_n hx hb dX12_init_380 rfl (lv_at hl 0 rfl) ?_
  refine W.eq (g2 := F0 m 381 ls [.ref a]) rfl ?_
  refine ct_get (j := 29) hk hI dX12_init_381 (by decide) (by decide) (wat_mem (i := 1358) (by decide +kernel)) h29 ?_
  refine W.eq (g2 := F0 m 384 ls [.ref (sz + 25)]) rfl ?_
  refine lv_iconst hx hb (v := i32 1) dX12_init_384 rfl ?_
  refine W.eq (g2 := F0 m 385 ls [.int (i32 1), .ref (sz + 25)]) rfl ?_
  refine lv_iconst hx hb (v := i32 (-1)) dX12_init_385 rfl ?_
  refine W.eq (g2 := F0 m 386 ls [.int (i32 (-1)), .int (i32 1), .ref (sz + 25)]) rfl ?_
  refine ct_iast (i9 := 25) (n := 2) (f := (va_up (fun _ => 0) 0 (i32 (-1)))) (x := (i32 (-1))) hk hI dX12_init_386 h25 (by unfold vp_in; decide) fun H locs hI => ?_
  exact kk H locs hI
end CX12
