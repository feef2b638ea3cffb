abbrev b_Mod_init : ByteArray := prog_14_method_11_code
def y_Mod_init : MethodName := ⟨"NameHatModel", "<init>", "()V"⟩
theorem hd_Mod_init : y_Mod_init.cls ≠ "java/lang/invoke/MethodHandle" ∧ y_Mod_init.cls ≠ "java/lang/invoke/VarHandle" ∧ (parseMethodDescriptor y_Mod_init.desc).map (fun d => d.parameters.length) = some 0 := by decide +kernel
theorem d_Mod_init_0 : decode b_Mod_init 0 = .ok (.aload_n 0, 1) := by decide +kernel
theorem d_Mod_init_1 : decode b_Mod_init 1 = .ok (.invokespecial 27, 3) := by decide +kernel
theorem d_Mod_init_4 : decode b_Mod_init 4 = .ok (.aload_n 0, 1) := by decide +kernel
theorem d_Mod_init_5 : decode b_Mod_init 5 = .ok (.sipush 940, 3) := by decide +kernel
theorem d_Mod_init_8 : decode b_Mod_init 8 = .ok (.newarray .byte, 2) := by decide +kernel
theorem d_Mod_init_10 : decode b_Mod_init 10 = .ok (.putfield 14, 3) := by decide +kernel
theorem d_Mod_init_13 : decode b_Mod_init 13 = .ok (.aload_n 0, 1) := by decide +kernel
theorem d_Mod_init_14 : decode b_Mod_init 14 = .ok (.sipush 744, 3) := by decide +kernel
theorem d_Mod_init_17 : decode b_Mod_init 17 = .ok (.newarray .int, 2) := by decide +kernel
theorem d_Mod_init_19 : decode b_Mod_init 19 = .ok (.putfield 33, 3) := by decide +kernel
theorem d_Mod_init_22 : decode b_Mod_init 22 = .ok (.aload_n 0, 1) := by decide +kernel
theorem d_Mod_init_23 : decode b_Mod_init 23 = .ok (.sipush 131, 3) := by decide +kernel
theorem d_Mod_init_26 : decode b_Mod_init 26 = .ok (.newarray .int, 2) := by decide +kernel
theorem d_Mod_init_28 : decode b_Mod_init 28 = .ok (.putfield 37, 3) := by decide +kernel
theorem d_Mod_init_31 : decode b_Mod_init 31 = .ok (.aload_n 0, 1) := by decide +kernel
theorem d_Mod_init_32 : decode b_Mod_init 32 = .ok (.bipush 121, 2) := by decide +kernel
theorem d_Mod_init_34 : decode b_Mod_init 34 = .ok (.newarray .int, 2) := by decide +kernel
theorem d_Mod_init_36 : decode b_Mod_init 36 = .ok (.putfield 40, 3) := by decide +kernel
theorem d_Mod_init_39 : decode b_Mod_init 39 = .ok (.aload_n 0, 1) := by decide +kernel
theorem d_Mod_init_40 : decode b_Mod_init 40 = .ok (.bipush 36, 2) := by decide +kernel
theorem d_Mod_init_42 : decode b_Mod_init 42 = .ok (.newarray .long, 2) := by decide +kernel
theorem d_Mod_init_44 : decode b_Mod_init 44 = .ok (.putfield 43, 3) := by decide +kernel
theorem d_Mod_init_47 : decode b_Mod_init 47 = .ok (.aload_n 0, 1) := by decide +kernel
theorem d_Mod_init_48 : decode b_Mod_init 48 = .ok (.bipush 17, 2) := by decide +kernel
theorem d_Mod_init_50 : decode b_Mod_init 50 = .ok (.newarray .long, 2) := by decide +kernel
theorem d_Mod_init_52 : decode b_Mod_init 52 = .ok (.putfield 47, 3) := by decide +kernel
theorem d_Mod_init_55 : decode b_Mod_init 55 = .ok (.aload_n 0, 1) := by decide +kernel
theorem d_Mod_init_56 : decode b_Mod_init 56 = .ok (.bipush 8, 2) := by decide +kernel
theorem d_Mod_init_58 : decode b_Mod_init 58 = .ok (.newarray .int, 2) := by decide +kernel
theorem d_Mod_init_60 : decode b_Mod_init 60 = .ok (.putfield 50, 3) := by decide +kernel
theorem d_Mod_init_63 : decode b_Mod_init 63 = .ok (.aload_n 0, 1) := by decide +kernel
theorem d_Mod_init_64 : decode b_Mod_init 64 = .ok (.bipush 8, 2) := by decide +kernel
theorem d_Mod_init_66 : decode b_Mod_init 66 = .ok (.newarray .int, 2) := by decide +kernel
theorem d_Mod_init_68 : decode b_Mod_init 68 = .ok (.putfield 53, 3) := by decide +kernel
theorem d_Mod_init_71 : decode b_Mod_init 71 = .ok (.aload_n 0, 1) := by decide +kernel
theorem d_Mod_init_72 : decode b_Mod_init 72 = .ok (.iconst (-1), 1) := by decide +kernel
theorem d_Mod_init_73 : decode b_Mod_init 73 = .ok (.putfield 56, 3) := by decide +kernel
theorem d_Mod_init_76 : decode b_Mod_init 76 = .ok (.aload_n 0, 1) := by decide +kernel
theorem d_Mod_init_77 : decode b_Mod_init 77 = .ok (.bipush 8, 2) := by decide +kernel
theorem d_Mod_init_79 : decode b_Mod_init 79 = .ok (.newarray .int, 2) := by decide +kernel
theorem d_Mod_init_81 : decode b_Mod_init 81 = .ok (.putfield 59, 3) := by decide +kernel
theorem d_Mod_init_84 : decode b_Mod_init 84 = .ok (.aload_n 0, 1) := by decide +kernel
theorem d_Mod_init_85 : decode b_Mod_init 85 = .ok (.bipush 8, 2) := by decide +kernel
theorem d_Mod_init_87 : decode b_Mod_init 87 = .ok (.newarray .int, 2) := by decide +kernel
theorem d_Mod_init_89 : decode b_Mod_init 89 = .ok (.putfield 62, 3) := by decide +kernel
theorem d_Mod_init_92 : decode b_Mod_init 92 = .ok (.aload_n 0, 1) := by decide +kernel
theorem d_Mod_init_93 : decode b_Mod_init 93 = .ok (.iconst 4, 1) := by decide +kernel
theorem d_Mod_init_94 : decode b_Mod_init 94 = .ok (.newarray .int, 2) := by decide +kernel
theorem d_Mod_init_96 : decode b_Mod_init 96 = .ok (.putfield 65, 3) := by decide +kernel
theorem d_Mod_init_99 : decode b_Mod_init 99 = .ok (.aload_n 0, 1) := by decide +kernel
theorem d_Mod_init_100 : decode b_Mod_init 100 = .ok (.bipush 16, 2) := by decide +kernel
theorem d_Mod_init_102 : decode b_Mod_init 102 = .ok (.newarray .int, 2) := by decide +kernel
theorem d_Mod_init_104 : decode b_Mod_init 104 = .ok (.putfield 68, 3) := by decide +kernel
theorem d_Mod_init_107 : decode b_Mod_init 107 = .ok (.aload_n 0, 1) := by decide +kernel
theorem d_Mod_init_108 : decode b_Mod_init 108 = .ok (.bipush 8, 2) := by decide +kernel
theorem d_Mod_init_110 : decode b_Mod_init 110 = .ok (.newarray .int, 2) := by decide +kernel
theorem d_Mod_init_112 : decode b_Mod_init 112 = .ok (.putfield 71, 3) := by decide +kernel
theorem d_Mod_init_115 : decode b_Mod_init 115 = .ok (.aload_n 0, 1) := by decide +kernel
theorem d_Mod_init_116 : decode b_Mod_init 116 = .ok (.bipush 8, 2) := by decide +kernel
theorem d_Mod_init_118 : decode b_Mod_init 118 = .ok (.newarray .int, 2) := by decide +kernel
theorem d_Mod_init_120 : decode b_Mod_init 120 = .ok (.putfield 74, 3) := by decide +kernel
theorem d_Mod_init_123 : decode b_Mod_init 123 = .ok (.aload_n 0, 1) := by decide +kernel
theorem d_Mod_init_124 : decode b_Mod_init 124 = .ok (.iconst (-1), 1) := by decide +kernel
theorem d_Mod_init_125 : decode b_Mod_init 125 = .ok (.putfield 77, 3) := by decide +kernel
theorem d_Mod_init_128 : decode b_Mod_init 128 = .ok (.aload_n 0, 1) := by decide +kernel
theorem d_Mod_init_129 : decode b_Mod_init 129 = .ok (.sipush 1024, 3) := by decide +kernel
theorem d_Mod_init_132 : decode b_Mod_init 132 = .ok (.newarray .int, 2) := by decide +kernel
theorem d_Mod_init_134 : decode b_Mod_init 134 = .ok (.putfield 80, 3) := by decide +kernel
theorem d_Mod_init_137 : decode b_Mod_init 137 = .ok (.aload_n 0, 1) := by decide +kernel
theorem d_Mod_init_138 : decode b_Mod_init 138 = .ok (.bipush 8, 2) := by decide +kernel
theorem d_Mod_init_140 : decode b_Mod_init 140 = .ok (.newarray .int, 2) := by decide +kernel
theorem d_Mod_init_142 : decode b_Mod_init 142 = .ok (.putfield 83, 3) := by decide +kernel
theorem d_Mod_init_145 : decode b_Mod_init 145 = .ok (.aload_n 0, 1) := by decide +kernel
theorem d_Mod_init_146 : decode b_Mod_init 146 = .ok (.bipush 13, 2) := by decide +kernel
theorem d_Mod_init_148 : decode b_Mod_init 148 = .ok (.newarray .long, 2) := by decide +kernel
theorem d_Mod_init_150 : decode b_Mod_init 150 = .ok (.putfield 86, 3) := by decide +kernel
theorem d_Mod_init_153 : decode b_Mod_init 153 = .ok (.aload_n 0, 1) := by decide +kernel
theorem d_Mod_init_154 : decode b_Mod_init 154 = .ok (.sipush 1488, 3) := by decide +kernel
theorem d_Mod_init_157 : decode b_Mod_init 157 = .ok (.newarray .int, 2) := by decide +kernel
theorem d_Mod_init_159 : decode b_Mod_init 159 = .ok (.putfield 89, 3) := by decide +kernel
theorem d_Mod_init_162 : decode b_Mod_init 162 = .ok (.aload_n 0, 1) := by decide +kernel
theorem d_Mod_init_163 : decode b_Mod_init 163 = .ok (.bipush 36, 2) := by decide +kernel
theorem d_Mod_init_165 : decode b_Mod_init 165 = .ok (.newarray .long, 2) := by decide +kernel
theorem d_Mod_init_167 : decode b_Mod_init 167 = .ok (.putfield 92, 3) := by decide +kernel
theorem d_Mod_init_170 : decode b_Mod_init 170 = .ok (.aload_n 0, 1) := by decide +kernel
theorem d_Mod_init_171 : decode b_Mod_init 171 = .ok (.iconst 2, 1) := by decide +kernel
theorem d_Mod_init_172 : decode b_Mod_init 172 = .ok (.newarray .boolean, 2) := by decide +kernel
theorem d_Mod_init_174 : decode b_Mod_init 174 = .ok (.putfield 95, 3) := by decide +kernel
def kl_Mod : List Nat := [11, 22, 20, 20, 20, 21, 21, 20, 20, 20, 20, 20, 20, 20, 20, 20, 20, 21, 20, 21, 23]
def zl_Mod : List Nat := [0, 940, 744, 131, 121, 36, 17, 8, 8, 8, 8, 4, 16, 8, 8, 1024, 8, 13, 1488, 36, 2]
abbrev kd_Mod : Nat → Nat := fun o => kl_Mod.getD o 99
abbrev z_Mod : Nat → Nat := fun o => zl_Mod.getD o 0
abbrev rm_Mod_init : Room := { frames := 1, cells := 20, slots := 4628, locals := 20 }
theorem d_Mod_init_177 : decode b_Mod_init 177 = .ok (.aload_n 0, 1) := by decide +kernel
theorem d_Mod_init_178 : decode b_Mod_init 178 = .ok (.getfield 47, 3) := by decide +kernel
theorem d_Mod_init_181 : decode b_Mod_init 181 = .ok (.iconst 0, 1) := by decide +kernel
theorem d_Mod_init_182 : decode b_Mod_init 182 = .ok (.ldc2_w 99, 3) := by decide +kernel
theorem d_Mod_init_185 : decode b_Mod_init 185 = .ok (.lastore, 1) := by decide +kernel
theorem d_Mod_init_186 : decode b_Mod_init 186 = .ok (.aload_n 0, 1) := by decide +kernel
theorem d_Mod_init_187 : decode b_Mod_init 187 = .ok (.getfield 47, 3) := by decide +kernel
theorem d_Mod_init_190 : decode b_Mod_init 190 = .ok (.iconst 1, 1) := by decide +kernel
theorem d_Mod_init_191 : decode b_Mod_init 191 = .ok (.ldc2_w 101, 3) := by decide +kernel
theorem d_Mod_init_194 : decode b_Mod_init 194 = .ok (.lastore, 1) := by decide +kernel
theorem d_Mod_init_195 : decode b_Mod_init 195 = .ok (.aload_n 0, 1) := by decide +kernel
theorem d_Mod_init_196 : decode b_Mod_init 196 = .ok (.getfield 47, 3) := by decide +kernel
theorem d_Mod_init_199 : decode b_Mod_init 199 = .ok (.iconst 2, 1) := by decide +kernel
theorem d_Mod_init_200 : decode b_Mod_init 200 = .ok (.ldc2_w 103, 3) := by decide +kernel
theorem d_Mod_init_203 : decode b_Mod_init 203 = .ok (.lastore, 1) := by decide +kernel
theorem d_Mod_init_204 : decode b_Mod_init 204 = .ok (.aload_n 0, 1) := by decide +kernel
theorem d_Mod_init_205 : decode b_Mod_init 205 = .ok (.getfield 47, 3) := by decide +kernel
theorem d_Mod_init_208 : decode b_Mod_init 208 = .ok (.iconst 3, 1) := by decide +kernel
theorem d_Mod_init_209 : decode b_Mod_init 209 = .ok (.ldc2_w 105, 3) := by decide +kernel
theorem d_Mod_init_212 : decode b_Mod_init 212 = .ok (.lastore, 1) := by decide +kernel
theorem d_Mod_init_213 : decode b_Mod_init 213 = .ok (.aload_n 0, 1) := by decide +kernel
theorem d_Mod_init_214 : decode b_Mod_init 214 = .ok (.getfield 47, 3) := by decide +kernel
theorem d_Mod_init_217 : decode b_Mod_init 217 = .ok (.iconst 4, 1) := by decide +kernel
theorem d_Mod_init_218 : decode b_Mod_init 218 = .ok (.ldc2_w 107, 3) := by decide +kernel
theorem d_Mod_init_221 : decode b_Mod_init 221 = .ok (.lastore, 1) := by decide +kernel
theorem d_Mod_init_222 : decode b_Mod_init 222 = .ok (.aload_n 0, 1) := by decide +kernel
theorem d_Mod_init_223 : decode b_Mod_init 223 = .ok (.getfield 47, 3) := by decide +kernel
theorem d_Mod_init_226 : decode b_Mod_init 226 = .ok (.iconst 5, 1) := by decide +kernel
theorem d_Mod_init_227 : decode b_Mod_init 227 = .ok (.ldc2_w 109, 3) := by decide +kernel
theorem d_Mod_init_230 : decode b_Mod_init 230 = .ok (.lastore, 1) := by decide +kernel
theorem d_Mod_init_231 : decode b_Mod_init 231 = .ok (.aload_n 0, 1) := by decide +kernel
theorem d_Mod_init_232 : decode b_Mod_init 232 = .ok (.getfield 47, 3) := by decide +kernel
theorem d_Mod_init_235 : decode b_Mod_init 235 = .ok (.bipush 6, 2) := by decide +kernel
theorem d_Mod_init_237 : decode b_Mod_init 237 = .ok (.ldc2_w 111, 3) := by decide +kernel
theorem d_Mod_init_240 : decode b_Mod_init 240 = .ok (.lastore, 1) := by decide +kernel
theorem d_Mod_init_241 : decode b_Mod_init 241 = .ok (.aload_n 0, 1) := by decide +kernel
theorem d_Mod_init_242 : decode b_Mod_init 242 = .ok (.getfield 47, 3) := by decide +kernel
theorem d_Mod_init_245 : decode b_Mod_init 245 = .ok (.bipush 7, 2) := by decide +kernel
theorem d_Mod_init_247 : decode b_Mod_init 247 = .ok (.ldc2_w 113, 3) := by decide +kernel
theorem d_Mod_init_250 : decode b_Mod_init 250 = .ok (.lastore, 1) := by decide +kernel
theorem d_Mod_init_251 : decode b_Mod_init 251 = .ok (.aload_n 0, 1) := by decide +kernel
theorem d_Mod_init_252 : decode b_Mod_init 252 = .ok (.getfield 47, 3) := by decide +kernel
theorem d_Mod_init_255 : decode b_Mod_init 255 = .ok (.bipush 8, 2) := by decide +kernel
theorem d_Mod_init_257 : decode b_Mod_init 257 = .ok (.ldc2_w 115, 3) := by decide +kernel
theorem d_Mod_init_260 : decode b_Mod_init 260 = .ok (.lastore, 1) := by decide +kernel
theorem d_Mod_init_261 : decode b_Mod_init 261 = .ok (.aload_n 0, 1) := by decide +kernel
theorem d_Mod_init_262 : decode b_Mod_init 262 = .ok (.getfield 47, 3) := by decide +kernel
theorem d_Mod_init_265 : decode b_Mod_init 265 = .ok (.bipush 9, 2) := by decide +kernel
theorem d_Mod_init_267 : decode b_Mod_init 267 = .ok (.ldc2_w 117, 3) := by decide +kernel
theorem d_Mod_init_270 : decode b_Mod_init 270 = .ok (.lastore, 1) := by decide +kernel
theorem d_Mod_init_271 : decode b_Mod_init 271 = .ok (.aload_n 0, 1) := by decide +kernel
theorem d_Mod_init_272 : decode b_Mod_init 272 = .ok (.getfield 47, 3) := by decide +kernel
theorem d_Mod_init_275 : decode b_Mod_init 275 = .ok (.bipush 10, 2) := by decide +kernel
theorem d_Mod_init_277 : decode b_Mod_init 277 = .ok (.ldc2_w 119, 3) := by decide +kernel
theorem d_Mod_init_280 : decode b_Mod_init 280 = .ok (.lastore, 1) := by decide +kernel
theorem d_Mod_init_281 : decode b_Mod_init 281 = .ok (.aload_n 0, 1) := by decide +kernel
theorem d_Mod_init_282 : decode b_Mod_init 282 = .ok (.getfield 47, 3) := by decide +kernel
theorem d_Mod_init_285 : decode b_Mod_init 285 = .ok (.bipush 11, 2) := by decide +kernel
theorem d_Mod_init_287 : decode b_Mod_init 287 = .ok (.ldc2_w 121, 3) := by decide +kernel
theorem d_Mod_init_290 : decode b_Mod_init 290 = .ok (.lastore, 1) := by decide +kernel
theorem d_Mod_init_291 : decode b_Mod_init 291 = .ok (.aload_n 0, 1) := by decide +kernel
theorem d_Mod_init_292 : decode b_Mod_init 292 = .ok (.getfield 47, 3) := by decide +kernel
theorem d_Mod_init_295 : decode b_Mod_init 295 = .ok (.bipush 12, 2) := by decide +kernel
theorem d_Mod_init_297 : decode b_Mod_init 297 = .ok (.ldc2_w 123, 3) := by decide +kernel
theorem d_Mod_init_300 : decode b_Mod_init 300 = .ok (.lastore, 1) := by decide +kernel
theorem d_Mod_init_301 : decode b_Mod_init 301 = .ok (.aload_n 0, 1) := by decide +kernel
theorem d_Mod_init_302 : decode b_Mod_init 302 = .ok (.getfield 47, 3) := by decide +kernel
theorem d_Mod_init_305 : decode b_Mod_init 305 = .ok (.bipush 13, 2) := by decide +kernel
theorem d_Mod_init_307 : decode b_Mod_init 307 = .ok (.ldc2_w 125, 3) := by decide +kernel
theorem d_Mod_init_310 : decode b_Mod_init 310 = .ok (.lastore, 1) := by decide +kernel
theorem d_Mod_init_311 : decode b_Mod_init 311 = .ok (.aload_n 0, 1) := by decide +kernel
theorem d_Mod_init_312 : decode b_Mod_init 312 = .ok (.getfield 47, 3) := by decide +kernel
theorem d_Mod_init_315 : decode b_Mod_init 315 = .ok (.bipush 14, 2) := by decide +kernel
theorem d_Mod_init_317 : decode b_Mod_init 317 = .ok (.ldc2_w 127, 3) := by decide +kernel
theorem d_Mod_init_320 : decode b_Mod_init 320 = .ok (.lastore, 1) := by decide +kernel
theorem d_Mod_init_321 : decode b_Mod_init 321 = .ok (.aload_n 0, 1) := by decide +kernel
theorem d_Mod_init_322 : decode b_Mod_init 322 = .ok (.getfield 47, 3) := by decide +kernel
theorem d_Mod_init_325 : decode b_Mod_init 325 = .ok (.bipush 15, 2) := by decide +kernel
theorem d_Mod_init_327 : decode b_Mod_init 327 = .ok (.ldc2_w 129, 3) := by decide +kernel
theorem d_Mod_init_330 : decode b_Mod_init 330 = .ok (.lastore, 1) := by decide +kernel
theorem d_Mod_init_331 : decode b_Mod_init 331 = .ok (.aload_n 0, 1) := by decide +kernel
theorem d_Mod_init_332 : decode b_Mod_init 332 = .ok (.getfield 47, 3) := by decide +kernel
theorem d_Mod_init_335 : decode b_Mod_init 335 = .ok (.bipush 16, 2) := by decide +kernel
theorem d_Mod_init_337 : decode b_Mod_init 337 = .ok (.ldc2_w 131, 3) := by decide +kernel
theorem d_Mod_init_340 : decode b_Mod_init 340 = .ok (.lastore, 1) := by decide +kernel
theorem d_Mod_init_341 : decode b_Mod_init 341 = .ok (.aload_n 0, 1) := by decide +kernel
theorem d_Mod_init_342 : decode b_Mod_init 342 = .ok (.getfield 33, 3) := by decide +kernel
theorem d_Mod_init_345 : decode b_Mod_init 345 = .ok (.iconst 2, 1) := by decide +kernel
theorem d_Mod_init_346 : decode b_Mod_init 346 = .ok (.iconst 1, 1) := by decide +kernel
theorem d_Mod_init_347 : decode b_Mod_init 347 = .ok (.iastore, 1) := by decide +kernel
theorem d_Mod_init_348 : decode b_Mod_init 348 = .ok (.aload_n 0, 1) := by decide +kernel
theorem d_Mod_init_349 : decode b_Mod_init 349 = .ok (.getfield 33, 3) := by decide +kernel
theorem d_Mod_init_352 : decode b_Mod_init 352 = .ok (.iconst 3, 1) := by decide +kernel
theorem d_Mod_init_353 : decode b_Mod_init 353 = .ok (.bipush 8, 2) := by decide +kernel
theorem d_Mod_init_355 : decode b_Mod_init 355 = .ok (.iastore, 1) := by decide +kernel
theorem d_Mod_init_356 : decode b_Mod_init 356 = .ok (.iconst 0, 1) := by decide +kernel
theorem d_Mod_init_357 : decode b_Mod_init 357 = .ok (.istore_n 1, 1) := by decide +kernel
theorem d_Mod_init_358 : decode b_Mod_init 358 = .ok (.iload_n 1, 1) := by decide +kernel
theorem d_Mod_init_359 : decode b_Mod_init 359 = .ok (.bipush 8, 2) := by decide +kernel
theorem d_Mod_init_361 : decode b_Mod_init 361 = .ok (.if_icmp .ge 19, 3) := by decide +kernel
theorem d_Mod_init_364 : decode b_Mod_init 364 = .ok (.aload_n 0, 1) := by decide +kernel
theorem d_Mod_init_365 : decode b_Mod_init 365 = .ok (.getfield 33, 3) := by decide +kernel
theorem d_Mod_init_368 : decode b_Mod_init 368 = .ok (.bipush 123, 2) := by decide +kernel
theorem d_Mod_init_370 : decode b_Mod_init 370 = .ok (.iload_n 1, 1) := by decide +kernel
theorem d_Mod_init_371 : decode b_Mod_init 371 = .ok (.iadd, 1) := by decide +kernel
theorem d_Mod_init_372 : decode b_Mod_init 372 = .ok (.iconst (-1), 1) := by decide +kernel
theorem d_Mod_init_373 : decode b_Mod_init 373 = .ok (.iastore, 1) := by decide +kernel
theorem d_Mod_init_374 : decode b_Mod_init 374 = .ok (.iinc 1 1, 3) := by decide +kernel
theorem d_Mod_init_377 : decode b_Mod_init 377 = .ok (.goto (-19), 3) := by decide +kernel
theorem d_Mod_init_380 : decode b_Mod_init 380 = .ok (.return_, 1) := by decide +kernel
noncomputable def f_Mod_init_L358 (z : Nat → Nat) (o : Nat) (s358 : Int32 × Mm) : Option ((Int32 × Mm) ⊕ (Mm)) :=
  if (8 : Int32) ≤ s358.1 then (
    some (.inr s358.2)
  ) else (
    (mm_stI s358.2 (o + 2) (z (o + 2)) ((123 : Int32) + s358.1) ((-1) : Int32)).bind fun m373 =>
    mm_lt (s358.1 + (1 : Int32)) fun x374 =>
    some (.inl (x374, m373))
  )
noncomputable def f_Mod_init2 (z : Nat → Nat) (σ : Mm) (o : Nat) : Option Mm :=
  (mm_stL σ (o + 6) (z (o + 6)) (0 : Int32) (1851878757 : Int64)).bind fun m185 =>
  (mm_stL m185 (o + 6) (z (o + 6)) (1 : Int32) (109356082488676 : Int64)).bind fun m194 =>
  (mm_stL m194 (o + 6) (z (o + 6)) (2 : Int32) (123563917862244 : Int64)).bind fun m203 =>
  (mm_stL m203 (o + 6) (z (o + 6)) (3 : Int32) (448546567013 : Int64)).bind fun m212 =>
  (mm_stL m212 (o + 6) (z (o + 6)) (4 : Int32) (448545973363 : Int64)).bind fun m221 =>
  (mm_stL m221 (o + 6) (z (o + 6)) (5 : Int32) (512735736947 : Int64)).bind fun m230 =>
  (mm_stL m230 (o + 6) (z (o + 6)) (6 : Int32) (1717925220 : Int64)).bind fun m240 =>
  (mm_stL m240 (o + 6) (z (o + 6)) (7 : Int32) (1885697907 : Int64)).bind fun m250 =>
  (mm_stL m250 (o + 6) (z (o + 6)) (8 : Int32) (1936290931 : Int64)).bind fun m260 =>
  (mm_stL m260 (o + 6) (z (o + 6)) (9 : Int32) (439854918756 : Int64)).bind fun m270 =>
  (mm_stL m270 (o + 6) (z (o + 6)) (10 : Int32) (6840691 : Int64)).bind fun m280 =>
  (mm_stL m280 (o + 6) (z (o + 6)) (11 : Int32) (7237492 : Int64)).bind fun m290 =>
  (mm_stL m290 (o + 6) (z (o + 6)) (12 : Int32) (1937203568 : Int64)).bind fun m300 =>
  (mm_stL m300 (o + 6) (z (o + 6)) (13 : Int32) (1734964837 : Int64)).bind fun m310 =>
  (mm_stL m310 (o + 6) (z (o + 6)) (14 : Int32) (1685221232 : Int64)).bind fun m320 =>
  (mm_stL m320 (o + 6) (z (o + 6)) (15 : Int32) (1952541541 : Int64)).bind fun m330 =>
  (mm_stL m330 (o + 6) (z (o + 6)) (16 : Int32) (500135191653 : Int64)).bind fun m340 =>
  (mm_stI m340 (o + 2) (z (o + 2)) (2 : Int32) (1 : Int32)).bind fun m347 =>
  (mm_stI m347 (o + 2) (z (o + 2)) (3 : Int32) (8 : Int32)).bind fun m355 =>
  (mm_lp (f_Mod_init_L358 z o) ((0 : Int32), m355)).bind (fun q358 =>
    some q358)
set_option maxHeartbeats 4000000 in
set_option maxRecDepth 100000 in
theorem c_Mod_init2 {E : Fx} {L : Ly} {A : Nat → Prop} {cs sl : Nat} {Q : State → Prop} {own : String} {rm : Room} (hown : own = "NameHatModel") (C : Cx E L A b_Mod_init 2 own none rm) {σ : Mm} {o : Nat} (k_o_0 : ly_k L o = 11) {res : Mm} (hf0 : f_Mod_init2 (ly_z L) σ o = some res) (hN : ∀ pc lv, decode b_Mod_init pc = .ok (.return_, 1) → GW E L A 2 cs sl Q res pc lv []) : GW E L A 2 cs sl Q σ 177 [(0, .ref (ly_a L o))] [] := by
  subst hown
  have hg := cx_g C
  have k_o_6 : ly_k L (o + 6) = 21 := gd_Mod_reserved hg k_o_0
  have k_o_2 : ly_k L (o + 2) = 20 := gd_Mod_s hg k_o_0
  unfold f_Mod_init2 at hf0
  refine gw_aload_n C 0 d_Mod_init_177 rfl rfl ?_
  refine gw_getA C 10 d_Mod_init_178 k_o_0 (by decide) i_Mod rfl rfl (by decide) qw_1175 rfl rfl (o + 6) rfl ?_
  refine gw_iconst C (0 : Int32) d_Mod_init_181 (by decide) ?_
  refine gw_ldc2_w C d_Mod_init_182 qw_1148 ?_
  obtain ⟨m185, hm185, hf0⟩ := mx_bd hf0
  obtain ⟨gm185, em185⟩ := mx_stL hm185
  refine gw_last C d_Mod_init_185 k_o_6 gm185 em185 ?_
  refine gw_aload_n C 0 d_Mod_init_186 rfl rfl ?_
  refine gw_getA C 10 d_Mod_init_187 k_o_0 (by decide) i_Mod rfl rfl (by decide) qw_1175 rfl rfl (o + 6) rfl ?_
  refine gw_iconst C (1 : Int32) d_Mod_init_190 (by decide) ?_
  refine gw_ldc2_w C d_Mod_init_191 qw_1149 ?_
  obtain ⟨m194, hm194, hf0⟩ := mx_bd hf0
  obtain ⟨gm194, em194⟩ := mx_stL hm194
  refine gw_last C d_Mod_init_194 k_o_6 gm194 em194 ?_
  refine gw_aload_n C 0 d_Mod_init_195 rfl rfl ?_
  refine gw_getA C 10 d_Mod_init_196 k_o_0 (by decide) i_Mod rfl rfl (by decide) qw_1175 rfl rfl (o + 6) rfl ?_
  refine gw_iconst C (2 : Int32) d_Mod_init_199 (by decide) ?_
  refine gw_ldc2_w C d_Mod_init_200 qw_1150 ?_
  obtain ⟨m203, hm203, hf0⟩ := mx_bd hf0
  obtain ⟨gm203, em203⟩ := mx_stL hm203
  refine gw_last C d_Mod_init_203 k_o_6 gm203 em203 ?_
  refine gw_aload_n C 0 d_Mod_init_204 rfl rfl ?_
  refine gw_getA C 10 d_Mod_init_205 k_o_0 (by decide) i_Mod rfl rfl (by decide) qw_1175 rfl rfl (o + 6) rfl ?_
  refine gw_iconst C (3 : Int32) d_Mod_init_208 (by decide) ?_
  refine gw_ldc2_w C d_Mod_init_209 qw_1151 ?_
  obtain ⟨m212, hm212, hf0⟩ := mx_bd hf0
  obtain ⟨gm212, em212⟩ := mx_stL hm212
  refine gw_last C d_Mod_init_212 k_o_6 gm212 em212 ?_
  refine gw_aload_n C 0 d_Mod_init_213 rfl rfl ?_
  refine gw_getA C 10 d_Mod_init_214 k_o_0 (by decide) i_Mod rfl rfl (by decide) qw_1175 rfl rfl (o + 6) rfl ?_
  refine gw_iconst C (4 : Int32) d_Mod_init_217 (by decide) ?_
  refine gw_ldc2_w C d_Mod_init_218 qw_1152 ?_
  obtain ⟨m221, hm221, hf0⟩ := mx_bd hf0
  obtain ⟨gm221, em221⟩ := mx_stL hm221
  refine gw_last C d_Mod_init_221 k_o_6 gm221 em221 ?_
  refine gw_aload_n C 0 d_Mod_init_222 rfl rfl ?_
  refine gw_getA C 10 d_Mod_init_223 k_o_0 (by decide) i_Mod rfl rfl (by decide) qw_1175 rfl rfl (o + 6) rfl ?_
  refine gw_iconst C (5 : Int32) d_Mod_init_226 (by decide) ?_
  refine gw_ldc2_w C d_Mod_init_227 qw_1153 ?_
  obtain ⟨m230, hm230, hf0⟩ := mx_bd hf0
  obtain ⟨gm230, em230⟩ := mx_stL hm230
  refine gw_last C d_Mod_init_230 k_o_6 gm230 em230 ?_
  refine gw_aload_n C 0 d_Mod_init_231 rfl rfl ?_
  refine gw_getA C 10 d_Mod_init_232 k_o_0 (by decide) i_Mod rfl rfl (by decide) qw_1175 rfl rfl (o + 6) rfl ?_
  refine gw_bipush C (6 : Int32) d_Mod_init_235 (by decide) ?_
  refine gw_ldc2_w C d_Mod_init_237 qw_1154 ?_
  obtain ⟨m240, hm240, hf0⟩ := mx_bd hf0
  obtain ⟨gm240, em240⟩ := mx_stL hm240
  refine gw_last C d_Mod_init_240 k_o_6 gm240 em240 ?_
  refine gw_aload_n C 0 d_Mod_init_241 rfl rfl ?_
  refine gw_getA C 10 d_Mod_init_242 k_o_0 (by decide) i_Mod rfl rfl (by decide) qw_1175 rfl rfl (o + 6) rfl ?_
  refine gw_bipush C (7 : Int32) d_Mod_init_245 (by decide) ?_
  refine gw_ldc2_w C d_Mod_init_247 qw_1155 ?_
  obtain ⟨m250, hm250, hf0⟩ := mx_bd hf0
  obtain ⟨gm250, em250⟩ := mx_stL hm250
  refine gw_last C d_Mod_init_250 k_o_6 gm250 em250 ?_
  refine gw_aload_n C 0 d_Mod_init_251 rfl rfl ?_
  refine gw_getA C 10 d_Mod_init_252 k_o_0 (by decide) i_Mod rfl rfl (by decide) qw_1175 rfl rfl (o + 6) rfl ?_
  refine gw_bipush C (8 : Int32) d_Mod_init_255 (by decide) ?_
  refine gw_ldc2_w C d_Mod_init_257 qw_1156 ?_
  obtain ⟨m260, hm260, hf0⟩ := mx_bd hf0
  obtain ⟨gm260, em260⟩ := mx_stL hm260
  refine gw_last C d_Mod_init_260 k_o_6 gm260 em260 ?_
  refine gw_aload_n C 0 d_Mod_init_261 rfl rfl ?_
  refine gw_getA C 10 d_Mod_init_262 k_o_0 (by decide) i_Mod rfl rfl (by decide) qw_1175 rfl rfl (o + 6) rfl ?_
  refine gw_bipush C (9 : Int32) d_Mod_init_265 (by decide) ?_
  refine gw_ldc2_w C d_Mod_init_267 qw_1157 ?_
  obtain ⟨m270, hm270, hf0⟩ := mx_bd hf0
  obtain ⟨gm270, em270⟩ := mx_stL hm270
  refine gw_last C d_Mod_init_270 k_o_6 gm270 em270 ?_
  refine gw_aload_n C 0 d_Mod_init_271 rfl rfl ?_
  refine gw_getA C 10 d_Mod_init_272 k_o_0 (by decide) i_Mod rfl rfl (by decide) qw_1175 rfl rfl (o + 6) rfl ?_
  refine gw_bipush C (10 : Int32) d_Mod_init_275 (by decide) ?_
  refine gw_ldc2_w C d_Mod_init_277 qw_1158 ?_
  obtain ⟨m280, hm280, hf0⟩ := mx_bd hf0
  obtain ⟨gm280, em280⟩ := mx_stL hm280
  refine gw_last C d_Mod_init_280 k_o_6 gm280 em280 ?_
  refine gw_aload_n C 0 d_Mod_init_281 rfl rfl ?_
  refine gw_getA C 10 d_Mod_init_282 k_o_0 (by decide) i_Mod rfl rfl (by decide) qw_1175 rfl rfl (o + 6) rfl ?_
  refine gw_bipush C (11 : Int32) d_Mod_init_285 (by decide) ?_
  refine gw_ldc2_w C d_Mod_init_287 qw_1159 ?_
  obtain ⟨m290, hm290, hf0⟩ := mx_bd hf0
  obtain ⟨gm290, em290⟩ := mx_stL hm290
  refine gw_last C d_Mod_init_290 k_o_6 gm290 em290 ?_
  refine gw_aload_n C 0 d_Mod_init_291 rfl rfl ?_
  refine gw_getA C 10 d_Mod_init_292 k_o_0 (by decide) i_Mod rfl rfl (by decide) qw_1175 rfl rfl (o + 6) rfl ?_
  refine gw_bipush C (12 : Int32) d_Mod_init_295 (by decide) ?_
  refine gw_ldc2_w C d_Mod_init_297 qw_1160 ?_
  obtain ⟨m300, hm300, hf0⟩ := mx_bd hf0
  obtain ⟨gm300, em300⟩ := mx_stL hm300
  refine gw_last C d_Mod_init_300 k_o_6 gm300 em300 ?_
  refine gw_aload_n C 0 d_Mod_init_301 rfl rfl ?_
  refine gw_getA C 10 d_Mod_init_302 k_o_0 (by decide) i_Mod rfl rfl (by decide) qw_1175 rfl rfl (o + 6) rfl ?_
  refine gw_bipush C (13 : Int32) d_Mod_init_305 (by decide) ?_
  refine gw_ldc2_w C d_Mod_init_307 qw_1161 ?_
  obtain ⟨m310, hm310, hf0⟩ := mx_bd hf0
  obtain ⟨gm310, em310⟩ := mx_stL hm310
  refine gw_last C d_Mod_init_310 k_o_6 gm310 em310 ?_
  refine gw_aload_n C 0 d_Mod_init_311 rfl rfl ?_
  refine gw_getA C 10 d_Mod_init_312 k_o_0 (by decide) i_Mod rfl rfl (by decide) qw_1175 rfl rfl (o + 6) rfl ?_
  refine gw_bipush C (14 : Int32) d_Mod_init_315 (by decide) ?_
  refine gw_ldc2_w C d_Mod_init_317 qw_1162 ?_
  obtain ⟨m320, hm320, hf0⟩ := mx_bd hf0
  obtain ⟨gm320, em320⟩ := mx_stL hm320
  refine gw_last C d_Mod_init_320 k_o_6 gm320 em320 ?_
  refine gw_aload_n C 0 d_Mod_init_321 rfl rfl ?_
  refine gw_getA C 10 d_Mod_init_322 k_o_0 (by decide) i_Mod rfl rfl (by decide) qw_1175 rfl rfl (o + 6) rfl ?_
  refine gw_bipush C (15 : Int32) d_Mod_init_325 (by decide) ?_
  refine gw_ldc2_w C d_Mod_init_327 qw_1163 ?_
  obtain ⟨m330, hm330, hf0⟩ := mx_bd hf0
  obtain ⟨gm330, em330⟩ := mx_stL hm330
  refine gw_last C d_Mod_init_330 k_o_6 gm330 em330 ?_
  refine gw_aload_n C 0 d_Mod_init_331 rfl rfl ?_
  refine gw_getA C 10 d_Mod_init_332 k_o_0 (by decide) i_Mod rfl rfl (by decide) qw_1175 rfl rfl (o + 6) rfl ?_
  refine gw_bipush C (16 : Int32) d_Mod_init_335 (by decide) ?_
  refine gw_ldc2_w C d_Mod_init_337 qw_1164 ?_
  obtain ⟨m340, hm340, hf0⟩ := mx_bd hf0
  obtain ⟨gm340, em340⟩ := mx_stL hm340
  refine gw_last C d_Mod_init_340 k_o_6 gm340 em340 ?_
  refine gw_aload_n C 0 d_Mod_init_341 rfl rfl ?_
  refine gw_getA C 6 d_Mod_init_342 k_o_0 (by decide) i_Mod rfl rfl (by decide) qw_1171 rfl rfl (o + 2) rfl ?_
  refine gw_iconst C (2 : Int32) d_Mod_init_345 (by decide) ?_
  refine gw_iconst C (1 : Int32) d_Mod_init_346 (by decide) ?_
  obtain ⟨m347, hm347, hf0⟩ := mx_bd hf0
  obtain ⟨gm347, em347⟩ := mx_stI hm347
  refine gw_iast C d_Mod_init_347 k_o_2 gm347 em347 ?_
  refine gw_aload_n C 0 d_Mod_init_348 rfl rfl ?_
  refine gw_getA C 6 d_Mod_init_349 k_o_0 (by decide) i_Mod rfl rfl (by decide) qw_1171 rfl rfl (o + 2) rfl ?_
  refine gw_iconst C (3 : Int32) d_Mod_init_352 (by decide) ?_
  refine gw_bipush C (8 : Int32) d_Mod_init_353 (by decide) ?_
  obtain ⟨m355, hm355, hf0⟩ := mx_bd hf0
  obtain ⟨gm355, em355⟩ := mx_stI hm355
  refine gw_iast C d_Mod_init_355 k_o_2 gm355 em355 ?_
  refine gw_iconst C (0 : Int32) d_Mod_init_356 (by decide) ?_
  refine gw_istore_n C [(1, .int (0 : Int32)), (0, .ref (ly_a L o))] d_Mod_init_357 rfl (by decide) rfl ?_
  obtain ⟨q358, hq358, hf0⟩ := mx_bd hf0
  have hk358 : ∀ x9, q358 = x9 → GW E L A 2 cs sl Q x9 380 [] [] := by
    intro x9 hx9
    subst hx9
    cases hf0
    exact hN _ _ d_Mod_init_380
  refine gw_sub [1, 0] (lv' := [(0, .ref (ly_a L o)), (1, .int (0 : Int32))]) rfl ?_
  refine mm_rule hq358 (P := fun (s358 : Int32 × Mm) => GW E L A 2 cs sl Q s358.2 358 [(0, .ref (ly_a L o)), (1, .int s358.1)] []) ?_
  intro s358 ih358 hx358 ⟨w358, hb358⟩
  have hf1 := hb358
  unfold f_Mod_init_L358 at hf1
  refine gw_iload_n C 1 d_Mod_init_358 rfl rfl ?_
  refine gw_bipush C (8 : Int32) d_Mod_init_359 (by decide) ?_
  refine gw_icmp_ge C 380 d_Mod_init_361 (by decide) (fun hc => ?_) (fun hc => ?_)
  · replace hf1 := mx_t hc hf1
    exact gw_go [] (hk358 s358.2 (hx358 _ (hb358.trans hf1.symm)).symm) rfl
  · replace hf1 := mx_f hc hf1
    refine gw_aload_n C 0 d_Mod_init_364 rfl rfl ?_
    refine gw_getA C 6 d_Mod_init_365 k_o_0 (by decide) i_Mod rfl rfl (by decide) qw_1171 rfl rfl (o + 2) rfl ?_
    refine gw_bipush C (123 : Int32) d_Mod_init_368 (by decide) ?_
    refine gw_iload_n C 1 d_Mod_init_370 rfl rfl ?_
    refine gw_iadd C d_Mod_init_371 ?_
    refine gw_iconst C ((-1) : Int32) d_Mod_init_372 (by decide) ?_
    obtain ⟨m373, hm373, hf1⟩ := mx_bd hf1
    obtain ⟨gm373, em373⟩ := mx_stI hm373
    refine gw_iast C d_Mod_init_373 k_o_2 gm373 em373 ?_
    obtain ⟨x374, ex374, hf1⟩ := mx_lt hf1
    refine gw_iinc C 1 [(1, .int x374), (0, .ref (ly_a L o))] d_Mod_init_374 rfl (by rw [ex374]; rfl) (by decide) rfl ?_
    refine gw_goto C 358 d_Mod_init_377 (by decide) ?_
    exact gw_go [1, 0] (ih358 (x374, m373) (hb358.trans hf1.symm)) rfl
theorem md_fs (h : Nat) : ([.int 0, .ref (h + 1), .int 0, .int 0, .int 0, .int 0, .ref (h + 2), .ref (h + 3), .ref (h + 4), .ref (h + 5), .ref (h + 6), .int 0, .int 0, .int 0, .int 0, .int 0, .int 0, .long 0, .int 0, .int 0, .int 0, .int 0, .int 0, .int 0, .ref (h + 7), .ref (h + 8), .int ((-1) : Int32), .ref (h + 9), .ref (h + 10), .int 0, .ref (h + 11), .ref (h + 12), .int 0, .ref (h + 13), .ref (h + 14), .int ((-1) : Int32), .ref (h + 15), .ref (h + 16), .long 0, .long 0, .int 0, .ref (h + 17), .ref (h + 18), .ref (h + 19), .ref (h + 20)] : List Value) = fd_row (fun o => h + o) (fd_T.getD 11 []) 0 ((kI (kI mm_0 0 26 (-1)) 0 35 (-1)).1 0) ((kI (kI mm_0 0 26 (-1)) 0 35 (-1)).2 0) := by
  rw [show fd_T.getD 11 [] = [(1, 0), (0, 1), (1, 0), (1, 0), (1, 0), (1, 0), (0, 2), (0, 3), (0, 4), (0, 5), (0, 6), (1, 0), (1, 0), (1, 0), (1, 0), (1, 0), (1, 0), (2, 0), (1, 0), (1, 0), (1, 0), (1, 0), (1, 0), (1, 0), (0, 7), (0, 8), (1, 0), (0, 9), (0, 10), (1, 0), (0, 11), (0, 12), (1, 0), (0, 13), (0, 14), (1, 0), (0, 15), (0, 16), (2, 0), (2, 0), (1, 0), (0, 17), (0, 18), (0, 19), (0, 20)] from rfl]
  simp [fd_row, kI, mm_0]
set_option maxHeartbeats 4000000 in
set_option maxRecDepth 100000 in
theorem c_Mod_init (l : Launch) {σM : Mm} (hσ : f_Mod_init2 z_Mod (kI (kI mm_0 0 26 (-1)) 0 35 (-1)) 0 = some σM) : CtC l y_Mod_init b_Mod_init 2 rm_Mod_init 11 kd_Mod z_Mod 21 [] [.int 0, .null, .int 0, .int 0, .int 0, .int 0, .null, .null, .null, .null, .null, .int 0, .int 0, .int 0, .int 0, .int 0, .int 0, .long 0, .int 0, .int 0, .int 0, .int 0, .int 0, .int 0, .null, .null, .int 0, .null, .null, .int 0, .null, .null, .int 0, .null, .null, .int 0, .null, .null, .long 0, .long 0, .int 0, .null, .null, .null, .null] σM := by
  refine ct_c (fun D ca sp h => gd_list (kl := kl_Mod) (by decide +kernel) (by decide +kernel)) (by decide) rfl (fun h => Nat.le_of_ble_eq_true rfl) ?_
  intro E L h Q hE ha hk hz hn C hs hnm hN9
  subst hE
  show GC E L _ 2 0 0 Q (W1 L (kI (kI mm_0 0 26 (-1)) 0 35 (-1)) h 1 11 [.int 0, .null, .int 0, .int 0, .int 0, .int 0, .null, .null, .null, .null, .null, .int 0, .int 0, .int 0, .int 0, .int 0, .int 0, .long 0, .int 0, .int 0, .int 0, .int 0, .int 0, .int 0, .null, .null, .int 0, .null, .null, .int 0, .null, .null, .int 0, .null, .null, .int 0, .null, .null, .long 0, .long 0, .int 0, .null, .null, .null, .null]) 0 [(0, .ref h)] []
  refine gc_aload_n C 0 d_Mod_init_0 rfl rfl ?_
  refine gc_obj C d_Mod_init_1 qw_1147 qw_30 qw_31 (Nat.le_of_ble_eq_true rfl) ⟨(Nat.le_of_ble_eq_true rfl), (Nat.le_of_ble_eq_true rfl)⟩ ?_
  refine gc_aload_n C 0 d_Mod_init_4 rfl rfl ?_
  refine gc_sipush C (940 : Int32) d_Mod_init_5 (by decide) ?_
  refine gc_newa (n := 1) (ty := .byte) 2 (940, .inl (fun _ => 0)) C hs (W1_c (Nat.le_of_ble_eq_true rfl)) (W1_len (Nat.le_of_ble_eq_true rfl)) rfl d_Mod_init_8 rfl rfl (fun _ _ q => q) qw_691 (fun _ => rfl) (by decide) (by decide) (Nat.le_of_ble_eq_true rfl) (Nat.le_of_ble_eq_true rfl) (Nat.le_of_ble_eq_true rfl) ?_
  refine gc_ws (W1_push (Nat.le_of_ble_eq_true rfl) (by rw [hk]; show _ = Sum.inl (_, ly_z L 1, _); rw [hz]; rw [kI_o _ _ _ _ (by decide), kI_o _ _ _ _ (by decide)]; rfl)) ?_
  refine gc_putF t_Mod C hnm 1 (W1_c (Nat.le_of_ble_eq_true rfl)) W1_0 d_Mod_init_10 i_Mod rfl (by decide) qw_1166 rfl rfl t_Mod_ok n_Mod rfl (t_Mod_ok 1 (by decide)) rfl rfl (Nat.le_of_ble_eq_true rfl) ?_
  show GC E L _ 2 _ _ Q (W1 L (kI (kI mm_0 0 26 (-1)) 0 35 (-1)) h 2 11 [.int 0, .ref (h + 1), .int 0, .int 0, .int 0, .int 0, .null, .null, .null, .null, .null, .int 0, .int 0, .int 0, .int 0, .int 0, .int 0, .long 0, .int 0, .int 0, .int 0, .int 0, .int 0, .int 0, .null, .null, .int 0, .null, .null, .int 0, .null, .null, .int 0, .null, .null, .int 0, .null, .null, .long 0, .long 0, .int 0, .null, .null, .null, .null]) _ _ _
  refine gc_aload_n C 0 d_Mod_init_13 rfl rfl ?_
  refine gc_sipush C (744 : Int32) d_Mod_init_14 (by decide) ?_
  refine gc_newa (n := 2) (ty := .int) 0 (744, .inl (fun _ => 0)) C hs (W1_c (Nat.le_of_ble_eq_true rfl)) (W1_len (Nat.le_of_ble_eq_true rfl)) rfl d_Mod_init_17 rfl rfl (fun _ _ q => q) qw_54 (fun _ => rfl) (by decide) (by decide) (Nat.le_of_ble_eq_true rfl) (Nat.le_of_ble_eq_true rfl) (Nat.le_of_ble_eq_true rfl) ?_
  refine gc_ws (W1_push (Nat.le_of_ble_eq_true rfl) (by rw [hk]; show _ = Sum.inl (_, ly_z L 2, _); rw [hz]; rw [kI_o _ _ _ _ (by decide), kI_o _ _ _ _ (by decide)]; rfl)) ?_
  refine gc_putF t_Mod C hnm 6 (W1_c (Nat.le_of_ble_eq_true rfl)) W1_0 d_Mod_init_19 i_Mod rfl (by decide) qw_1171 rfl rfl t_Mod_ok n_Mod rfl (t_Mod_ok 6 (by decide)) rfl rfl (Nat.le_of_ble_eq_true rfl) ?_
  show GC E L _ 2 _ _ Q (W1 L (kI (kI mm_0 0 26 (-1)) 0 35 (-1)) h 3 11 [.int 0, .ref (h + 1), .int 0, .int 0, .int 0, .int 0, .ref (h + 2), .null, .null, .null, .null, .int 0, .int 0, .int 0, .int 0, .int 0, .int 0, .long 0, .int 0, .int 0, .int 0, .int 0, .int 0, .int 0, .null, .null, .int 0, .null, .null, .int 0, .null, .null, .int 0, .null, .null, .int 0, .null, .null, .long 0, .long 0, .int 0, .null, .null, .null, .null]) _ _ _
  refine gc_aload_n C 0 d_Mod_init_22 rfl rfl ?_
  refine gc_sipush C (131 : Int32) d_Mod_init_23 (by decide) ?_
  refine gc_newa (n := 3) (ty := .int) 0 (131, .inl (fun _ => 0)) C hs (W1_c (Nat.le_of_ble_eq_true rfl)) (W1_len (Nat.le_of_ble_eq_true rfl)) rfl d_Mod_init_26 rfl rfl (fun _ _ q => q) qw_54 (fun _ => rfl) (by decide) (by decide) (Nat.le_of_ble_eq_true rfl) (Nat.le_of_ble_eq_true rfl) (Nat.le_of_ble_eq_true rfl) ?_
  refine gc_ws (W1_push (Nat.le_of_ble_eq_true rfl) (by rw [hk]; show _ = Sum.inl (_, ly_z L 3, _); rw [hz]; rw [kI_o _ _ _ _ (by decide), kI_o _ _ _ _ (by decide)]; rfl)) ?_
  refine gc_putF t_Mod C hnm 7 (W1_c (Nat.le_of_ble_eq_true rfl)) W1_0 d_Mod_init_28 i_Mod rfl (by decide) qw_1172 rfl rfl t_Mod_ok n_Mod rfl (t_Mod_ok 7 (by decide)) rfl rfl (Nat.le_of_ble_eq_true rfl) ?_
  show GC E L _ 2 _ _ Q (W1 L (kI (kI mm_0 0 26 (-1)) 0 35 (-1)) h 4 11 [.int 0, .ref (h + 1), .int 0, .int 0, .int 0, .int 0, .ref (h + 2), .ref (h + 3), .null, .null, .null, .int 0, .int 0, .int 0, .int 0, .int 0, .int 0, .long 0, .int 0, .int 0, .int 0, .int 0, .int 0, .int 0, .null, .null, .int 0, .null, .null, .int 0, .null, .null, .int 0, .null, .null, .int 0, .null, .null, .long 0, .long 0, .int 0, .null, .null, .null, .null]) _ _ _
  refine gc_aload_n C 0 d_Mod_init_31 rfl rfl ?_
  refine gc_bipush C (121 : Int32) d_Mod_init_32 (by decide) ?_
  refine gc_newa (n := 4) (ty := .int) 0 (121, .inl (fun _ => 0)) C hs (W1_c (Nat.le_of_ble_eq_true rfl)) (W1_len (Nat.le_of_ble_eq_true rfl)) rfl d_Mod_init_34 rfl rfl (fun _ _ q => q) qw_54 (fun _ => rfl) (by decide) (by decide) (Nat.le_of_ble_eq_true rfl) (Nat.le_of_ble_eq_true rfl) (Nat.le_of_ble_eq_true rfl) ?_
  refine gc_ws (W1_push (Nat.le_of_ble_eq_true rfl) (by rw [hk]; show _ = Sum.inl (_, ly_z L 4, _); rw [hz]; rw [kI_o _ _ _ _ (by decide), kI_o _ _ _ _ (by decide)]; rfl)) ?_
  refine gc_putF t_Mod C hnm 8 (W1_c (Nat.le_of_ble_eq_true rfl)) W1_0 d_Mod_init_36 i_Mod rfl (by decide) qw_1173 rfl rfl t_Mod_ok n_Mod rfl (t_Mod_ok 8 (by decide)) rfl rfl (Nat.le_of_ble_eq_true rfl) ?_
  show GC E L _ 2 _ _ Q (W1 L (kI (kI mm_0 0 26 (-1)) 0 35 (-1)) h 5 11 [.int 0, .ref (h + 1), .int 0, .int 0, .int 0, .int 0, .ref (h + 2), .ref (h + 3), .ref (h + 4), .null, .null, .int 0, .int 0, .int 0, .int 0, .int 0, .int 0, .long 0, .int 0, .int 0, .int 0, .int 0, .int 0, .int 0, .null, .null, .int 0, .null, .null, .int 0, .null, .null, .int 0, .null, .null, .int 0, .null, .null, .long 0, .long 0, .int 0, .null, .null, .null, .null]) _ _ _
  refine gc_aload_n C 0 d_Mod_init_39 rfl rfl ?_
  refine gc_bipush C (36 : Int32) d_Mod_init_40 (by decide) ?_
  refine gc_newa (n := 5) (ty := .long) 1 (36, .inr (.inl (fun _ => 0))) C hs (W1_c (Nat.le_of_ble_eq_true rfl)) (W1_len (Nat.le_of_ble_eq_true rfl)) rfl d_Mod_init_42 rfl rfl (fun _ _ q => q) qw_121 (fun _ => rfl) (by decide) (by decide) (Nat.le_of_ble_eq_true rfl) (Nat.le_of_ble_eq_true rfl) (Nat.le_of_ble_eq_true rfl) ?_
  refine gc_ws (W1_push (Nat.le_of_ble_eq_true rfl) (by rw [hk]; show _ = Sum.inl (_, ly_z L 5, _); rw [hz]; rfl)) ?_
  refine gc_putF t_Mod C hnm 9 (W1_c (Nat.le_of_ble_eq_true rfl)) W1_0 d_Mod_init_44 i_Mod rfl (by decide) qw_1174 rfl rfl t_Mod_ok n_Mod rfl (t_Mod_ok 9 (by decide)) rfl rfl (Nat.le_of_ble_eq_true rfl) ?_
  show GC E L _ 2 _ _ Q (W1 L (kI (kI mm_0 0 26 (-1)) 0 35 (-1)) h 6 11 [.int 0, .ref (h + 1), .int 0, .int 0, .int 0, .int 0, .ref (h + 2), .ref (h + 3), .ref (h + 4), .ref (h + 5), .null, .int 0, .int 0, .int 0, .int 0, .int 0, .int 0, .long 0, .int 0, .int 0, .int 0, .int 0, .int 0, .int 0, .null, .null, .int 0, .null, .null, .int 0, .null, .null, .int 0, .null, .null, .int 0, .null, .null, .long 0, .long 0, .int 0, .null, .null, .null, .null]) _ _ _
  refine gc_aload_n C 0 d_Mod_init_47 rfl rfl ?_
  refine gc_bipush C (17 : Int32) d_Mod_init_48 (by decide) ?_
  refine gc_newa (n := 6) (ty := .long) 1 (17, .inr (.inl (fun _ => 0))) C hs (W1_c (Nat.le_of_ble_eq_true rfl)) (W1_len (Nat.le_of_ble_eq_true rfl)) rfl d_Mod_init_50 rfl rfl (fun _ _ q => q) qw_121 (fun _ => rfl) (by decide) (by decide) (Nat.le_of_ble_eq_true rfl) (Nat.le_of_ble_eq_true rfl) (Nat.le_of_ble_eq_true rfl) ?_
  refine gc_ws (W1_push (Nat.le_of_ble_eq_true rfl) (by rw [hk]; show _ = Sum.inl (_, ly_z L 6, _); rw [hz]; rfl)) ?_
  refine gc_putF t_Mod C hnm 10 (W1_c (Nat.le_of_ble_eq_true rfl)) W1_0 d_Mod_init_52 i_Mod rfl (by decide) qw_1175 rfl rfl t_Mod_ok n_Mod rfl (t_Mod_ok 10 (by decide)) rfl rfl (Nat.le_of_ble_eq_true rfl) ?_
  show GC E L _ 2 _ _ Q (W1 L (kI (kI mm_0 0 26 (-1)) 0 35 (-1)) h 7 11 [.int 0, .ref (h + 1), .int 0, .int 0, .int 0, .int 0, .ref (h + 2), .ref (h + 3), .ref (h + 4), .ref (h + 5), .ref (h + 6), .int 0, .int 0, .int 0, .int 0, .int 0, .int 0, .long 0, .int 0, .int 0, .int 0, .int 0, .int 0, .int 0, .null, .null, .int 0, .null, .null, .int 0, .null, .null, .int 0, .null, .null, .int 0, .null, .null, .long 0, .long 0, .int 0, .null, .null, .null, .null]) _ _ _
  refine gc_aload_n C 0 d_Mod_init_55 rfl rfl ?_
  refine gc_bipush C (8 : Int32) d_Mod_init_56 (by decide) ?_
  refine gc_newa (n := 7) (ty := .int) 0 (8, .inl (fun _ => 0)) C hs (W1_c (Nat.le_of_ble_eq_true rfl)) (W1_len (Nat.le_of_ble_eq_true rfl)) rfl d_Mod_init_58 rfl rfl (fun _ _ q => q) qw_54 (fun _ => rfl) (by decide) (by decide) (Nat.le_of_ble_eq_true rfl) (Nat.le_of_ble_eq_true rfl) (Nat.le_of_ble_eq_true rfl) ?_
  refine gc_ws (W1_push (Nat.le_of_ble_eq_true rfl) (by rw [hk]; show _ = Sum.inl (_, ly_z L 7, _); rw [hz]; rw [kI_o _ _ _ _ (by decide), kI_o _ _ _ _ (by decide)]; rfl)) ?_
  refine gc_putF t_Mod C hnm 24 (W1_c (Nat.le_of_ble_eq_true rfl)) W1_0 d_Mod_init_60 i_Mod rfl (by decide) qw_1189 rfl rfl t_Mod_ok n_Mod rfl (t_Mod_ok 24 (by decide)) rfl rfl (Nat.le_of_ble_eq_true rfl) ?_
  show GC E L _ 2 _ _ Q (W1 L (kI (kI mm_0 0 26 (-1)) 0 35 (-1)) h 8 11 [.int 0, .ref (h + 1), .int 0, .int 0, .int 0, .int 0, .ref (h + 2), .ref (h + 3), .ref (h + 4), .ref (h + 5), .ref (h + 6), .int 0, .int 0, .int 0, .int 0, .int 0, .int 0, .long 0, .int 0, .int 0, .int 0, .int 0, .int 0, .int 0, .ref (h + 7), .null, .int 0, .null, .null, .int 0, .null, .null, .int 0, .null, .null, .int 0, .null, .null, .long 0, .long 0, .int 0, .null, .null, .null, .null]) _ _ _
  refine gc_aload_n C 0 d_Mod_init_63 rfl rfl ?_
  refine gc_bipush C (8 : Int32) d_Mod_init_64 (by decide) ?_
  refine gc_newa (n := 8) (ty := .int) 0 (8, .inl (fun _ => 0)) C hs (W1_c (Nat.le_of_ble_eq_true rfl)) (W1_len (Nat.le_of_ble_eq_true rfl)) rfl d_Mod_init_66 rfl rfl (fun _ _ q => q) qw_54 (fun _ => rfl) (by decide) (by decide) (Nat.le_of_ble_eq_true rfl) (Nat.le_of_ble_eq_true rfl) (Nat.le_of_ble_eq_true rfl) ?_
  refine gc_ws (W1_push (Nat.le_of_ble_eq_true rfl) (by rw [hk]; show _ = Sum.inl (_, ly_z L 8, _); rw [hz]; rw [kI_o _ _ _ _ (by decide), kI_o _ _ _ _ (by decide)]; rfl)) ?_
  refine gc_putF t_Mod C hnm 25 (W1_c (Nat.le_of_ble_eq_true rfl)) W1_0 d_Mod_init_68 i_Mod rfl (by decide) qw_1190 rfl rfl t_Mod_ok n_Mod rfl (t_Mod_ok 25 (by decide)) rfl rfl (Nat.le_of_ble_eq_true rfl) ?_
  show GC E L _ 2 _ _ Q (W1 L (kI (kI mm_0 0 26 (-1)) 0 35 (-1)) h 9 11 [.int 0, .ref (h + 1), .int 0, .int 0, .int 0, .int 0, .ref (h + 2), .ref (h + 3), .ref (h + 4), .ref (h + 5), .ref (h + 6), .int 0, .int 0, .int 0, .int 0, .int 0, .int 0, .long 0, .int 0, .int 0, .int 0, .int 0, .int 0, .int 0, .ref (h + 7), .ref (h + 8), .int 0, .null, .null, .int 0, .null, .null, .int 0, .null, .null, .int 0, .null, .null, .long 0, .long 0, .int 0, .null, .null, .null, .null]) _ _ _
  refine gc_aload_n C 0 d_Mod_init_71 rfl rfl ?_
  refine gc_iconst C ((-1) : Int32) d_Mod_init_72 (by decide) ?_
  refine gc_putI t_Mod C 26 (W1_c (Nat.le_of_ble_eq_true rfl)) W1_0 d_Mod_init_73 i_Mod rfl (by decide) qw_1191 rfl rfl t_Mod_ok n_Mod rfl (t_Mod_ok 26 (by decide)) rfl rfl (Nat.le_of_ble_eq_true rfl) ?_
  show GC E L _ 2 _ _ Q (W1 L (kI (kI mm_0 0 26 (-1)) 0 35 (-1)) h 9 11 [.int 0, .ref (h + 1), .int 0, .int 0, .int 0, .int 0, .ref (h + 2), .ref (h + 3), .ref (h + 4), .ref (h + 5), .ref (h + 6), .int 0, .int 0, .int 0, .int 0, .int 0, .int 0, .long 0, .int 0, .int 0, .int 0, .int 0, .int 0, .int 0, .ref (h + 7), .ref (h + 8), .int ((-1) : Int32), .null, .null, .int 0, .null, .null, .int 0, .null, .null, .int 0, .null, .null, .long 0, .long 0, .int 0, .null, .null, .null, .null]) _ _ _
  refine gc_aload_n C 0 d_Mod_init_76 rfl rfl ?_
  refine gc_bipush C (8 : Int32) d_Mod_init_77 (by decide) ?_
  refine gc_newa (n := 9) (ty := .int) 0 (8, .inl (fun _ => 0)) C hs (W1_c (Nat.le_of_ble_eq_true rfl)) (W1_len (Nat.le_of_ble_eq_true rfl)) rfl d_Mod_init_79 rfl rfl (fun _ _ q => q) qw_54 (fun _ => rfl) (by decide) (by decide) (Nat.le_of_ble_eq_true rfl) (Nat.le_of_ble_eq_true rfl) (Nat.le_of_ble_eq_true rfl) ?_
  refine gc_ws (W1_push (Nat.le_of_ble_eq_true rfl) (by rw [hk]; show _ = Sum.inl (_, ly_z L 9, _); rw [hz]; rw [kI_o _ _ _ _ (by decide), kI_o _ _ _ _ (by decide)]; rfl)) ?_
  refine gc_putF t_Mod C hnm 27 (W1_c (Nat.le_of_ble_eq_true rfl)) W1_0 d_Mod_init_81 i_Mod rfl (by decide) qw_1192 rfl rfl t_Mod_ok n_Mod rfl (t_Mod_ok 27 (by decide)) rfl rfl (Nat.le_of_ble_eq_true rfl) ?_
  show GC E L _ 2 _ _ Q (W1 L (kI (kI mm_0 0 26 (-1)) 0 35 (-1)) h 10 11 [.int 0, .ref (h + 1), .int 0, .int 0, .int 0, .int 0, .ref (h + 2), .ref (h + 3), .ref (h + 4), .ref (h + 5), .ref (h + 6), .int 0, .int 0, .int 0, .int 0, .int 0, .int 0, .long 0, .int 0, .int 0, .int 0, .int 0, .int 0, .int 0, .ref (h + 7), .ref (h + 8), .int ((-1) : Int32), .ref (h + 9), .null, .int 0, .null, .null, .int 0, .null, .null, .int 0, .null, .null, .long 0, .long 0, .int 0, .null, .null, .null, .null]) _ _ _
  refine gc_aload_n C 0 d_Mod_init_84 rfl rfl ?_
  refine gc_bipush C (8 : Int32) d_Mod_init_85 (by decide) ?_
  refine gc_newa (n := 10) (ty := .int) 0 (8, .inl (fun _ => 0)) C hs (W1_c (Nat.le_of_ble_eq_true rfl)) (W1_len (Nat.le_of_ble_eq_true rfl)) rfl d_Mod_init_87 rfl rfl (fun _ _ q => q) qw_54 (fun _ => rfl) (by decide) (by decide) (Nat.le_of_ble_eq_true rfl) (Nat.le_of_ble_eq_true rfl) (Nat.le_of_ble_eq_true rfl) ?_
  refine gc_ws (W1_push (Nat.le_of_ble_eq_true rfl) (by rw [hk]; show _ = Sum.inl (_, ly_z L 10, _); rw [hz]; rw [kI_o _ _ _ _ (by decide), kI_o _ _ _ _ (by decide)]; rfl)) ?_
  refine gc_putF t_Mod C hnm 28 (W1_c (Nat.le_of_ble_eq_true rfl)) W1_0 d_Mod_init_89 i_Mod rfl (by decide) qw_1193 rfl rfl t_Mod_ok n_Mod rfl (t_Mod_ok 28 (by decide)) rfl rfl (Nat.le_of_ble_eq_true rfl) ?_
  show GC E L _ 2 _ _ Q (W1 L (kI (kI mm_0 0 26 (-1)) 0 35 (-1)) h 11 11 [.int 0, .ref (h + 1), .int 0, .int 0, .int 0, .int 0, .ref (h + 2), .ref (h + 3), .ref (h + 4), .ref (h + 5), .ref (h + 6), .int 0, .int 0, .int 0, .int 0, .int 0, .int 0, .long 0, .int 0, .int 0, .int 0, .int 0, .int 0, .int 0, .ref (h + 7), .ref (h + 8), .int ((-1) : Int32), .ref (h + 9), .ref (h + 10), .int 0, .null, .null, .int 0, .null, .null, .int 0, .null, .null, .long 0, .long 0, .int 0, .null, .null, .null, .null]) _ _ _
  refine gc_aload_n C 0 d_Mod_init_92 rfl rfl ?_
  refine gc_iconst C (4 : Int32) d_Mod_init_93 (by decide) ?_
  refine gc_newa (n := 11) (ty := .int) 0 (4, .inl (fun _ => 0)) C hs (W1_c (Nat.le_of_ble_eq_true rfl)) (W1_len (Nat.le_of_ble_eq_true rfl)) rfl d_Mod_init_94 rfl rfl (fun _ _ q => q) qw_54 (fun _ => rfl) (by decide) (by decide) (Nat.le_of_ble_eq_true rfl) (Nat.le_of_ble_eq_true rfl) (Nat.le_of_ble_eq_true rfl) ?_
  refine gc_ws (W1_push (Nat.le_of_ble_eq_true rfl) (by rw [hk]; show _ = Sum.inl (_, ly_z L 11, _); rw [hz]; rw [kI_o _ _ _ _ (by decide), kI_o _ _ _ _ (by decide)]; rfl)) ?_
  refine gc_putF t_Mod C hnm 30 (W1_c (Nat.le_of_ble_eq_true rfl)) W1_0 d_Mod_init_96 i_Mod rfl (by decide) qw_1195 rfl rfl t_Mod_ok n_Mod rfl (t_Mod_ok 30 (by decide)) rfl rfl (Nat.le_of_ble_eq_true rfl) ?_
  show GC E L _ 2 _ _ Q (W1 L (kI (kI mm_0 0 26 (-1)) 0 35 (-1)) h 12 11 [.int 0, .ref (h + 1), .int 0, .int 0, .int 0, .int 0, .ref (h + 2), .ref (h + 3), .ref (h + 4), .ref (h + 5), .ref (h + 6), .int 0, .int 0, .int 0, .int 0, .int 0, .int 0, .long 0, .int 0, .int 0, .int 0, .int 0, .int 0, .int 0, .ref (h + 7), .ref (h + 8), .int ((-1) : Int32), .ref (h + 9), .ref (h + 10), .int 0, .ref (h + 11), .null, .int 0, .null, .null, .int 0, .null, .null, .long 0, .long 0, .int 0, .null, .null, .null, .null]) _ _ _
  refine gc_aload_n C 0 d_Mod_init_99 rfl rfl ?_
  refine gc_bipush C (16 : Int32) d_Mod_init_100 (by decide) ?_
  refine gc_newa (n := 12) (ty := .int) 0 (16, .inl (fun _ => 0)) C hs (W1_c (Nat.le_of_ble_eq_true rfl)) (W1_len (Nat.le_of_ble_eq_true rfl)) rfl d_Mod_init_102 rfl rfl (fun _ _ q => q) qw_54 (fun _ => rfl) (by decide) (by decide) (Nat.le_of_ble_eq_true rfl) (Nat.le_of_ble_eq_true rfl) (Nat.le_of_ble_eq_true rfl) ?_
  refine gc_ws (W1_push (Nat.le_of_ble_eq_true rfl) (by rw [hk]; show _ = Sum.inl (_, ly_z L 12, _); rw [hz]; rw [kI_o _ _ _ _ (by decide), kI_o _ _ _ _ (by decide)]; rfl)) ?_
  refine gc_putF t_Mod C hnm 31 (W1_c (Nat.le_of_ble_eq_true rfl)) W1_0 d_Mod_init_104 i_Mod rfl (by decide) qw_1196 rfl rfl t_Mod_ok n_Mod rfl (t_Mod_ok 31 (by decide)) rfl rfl (Nat.le_of_ble_eq_true rfl) ?_
  show GC E L _ 2 _ _ Q (W1 L (kI (kI mm_0 0 26 (-1)) 0 35 (-1)) h 13 11 [.int 0, .ref (h + 1), .int 0, .int 0, .int 0, .int 0, .ref (h + 2), .ref (h + 3), .ref (h + 4), .ref (h + 5), .ref (h + 6), .int 0, .int 0, .int 0, .int 0, .int 0, .int 0, .long 0, .int 0, .int 0, .int 0, .int 0, .int 0, .int 0, .ref (h + 7), .ref (h + 8), .int ((-1) : Int32), .ref (h + 9), .ref (h + 10), .int 0, .ref (h + 11), .ref (h + 12), .int 0, .null, .null, .int 0, .null, .null, .long 0, .long 0, .int 0, .null, .null, .null, .null]) _ _ _
  refine gc_aload_n C 0 d_Mod_init_107 rfl rfl ?_
  refine gc_bipush C (8 : Int32) d_Mod_init_108 (by decide) ?_
  refine gc_newa (n := 13) (ty := .int) 0 (8, .inl (fun _ => 0)) C hs (W1_c (Nat.le_of_ble_eq_true rfl)) (W1_len (Nat.le_of_ble_eq_true rfl)) rfl d_Mod_init_110 rfl rfl (fun _ _ q => q) qw_54 (fun _ => rfl) (by decide) (by decide) (Nat.le_of_ble_eq_true rfl) (Nat.le_of_ble_eq_true rfl) (Nat.le_of_ble_eq_true rfl) ?_
  refine gc_ws (W1_push (Nat.le_of_ble_eq_true rfl) (by rw [hk]; show _ = Sum.inl (_, ly_z L 13, _); rw [hz]; rw [kI_o _ _ _ _ (by decide), kI_o _ _ _ _ (by decide)]; rfl)) ?_
  refine gc_putF t_Mod C hnm 33 (W1_c (Nat.le_of_ble_eq_true rfl)) W1_0 d_Mod_init_112 i_Mod rfl (by decide) qw_1198 rfl rfl t_Mod_ok n_Mod rfl (t_Mod_ok 33 (by decide)) rfl rfl (Nat.le_of_ble_eq_true rfl) ?_
  show GC E L _ 2 _ _ Q (W1 L (kI (kI mm_0 0 26 (-1)) 0 35 (-1)) h 14 11 [.int 0, .ref (h + 1), .int 0, .int 0, .int 0, .int 0, .ref (h + 2), .ref (h + 3), .ref (h + 4), .ref (h + 5), .ref (h + 6), .int 0, .int 0, .int 0, .int 0, .int 0, .int 0, .long 0, .int 0, .int 0, .int 0, .int 0, .int 0, .int 0, .ref (h + 7), .ref (h + 8), .int ((-1) : Int32), .ref (h + 9), .ref (h + 10), .int 0, .ref (h + 11), .ref (h + 12), .int 0, .ref (h + 13), .null, .int 0, .null, .null, .long 0, .long 0, .int 0, .null, .null, .null, .null]) _ _ _
  refine gc_aload_n C 0 d_Mod_init_115 rfl rfl ?_
  refine gc_bipush C (8 : Int32) d_Mod_init_116 (by decide) ?_
  refine gc_newa (n := 14) (ty := .int) 0 (8, .inl (fun _ => 0)) C hs (W1_c (Nat.le_of_ble_eq_true rfl)) (W1_len (Nat.le_of_ble_eq_true rfl)) rfl d_Mod_init_118 rfl rfl (fun _ _ q => q) qw_54 (fun _ => rfl) (by decide) (by decide) (Nat.le_of_ble_eq_true rfl) (Nat.le_of_ble_eq_true rfl) (Nat.le_of_ble_eq_true rfl) ?_
  refine gc_ws (W1_push (Nat.le_of_ble_eq_true rfl) (by rw [hk]; show _ = Sum.inl (_, ly_z L 14, _); rw [hz]; rw [kI_o _ _ _ _ (by decide), kI_o _ _ _ _ (by decide)]; rfl)) ?_
  refine gc_putF t_Mod C hnm 34 (W1_c (Nat.le_of_ble_eq_true rfl)) W1_0 d_Mod_init_120 i_Mod rfl (by decide) qw_1199 rfl rfl t_Mod_ok n_Mod rfl (t_Mod_ok 34 (by decide)) rfl rfl (Nat.le_of_ble_eq_true rfl) ?_
  show GC E L _ 2 _ _ Q (W1 L (kI (kI mm_0 0 26 (-1)) 0 35 (-1)) h 15 11 [.int 0, .ref (h + 1), .int 0, .int 0, .int 0, .int 0, .ref (h + 2), .ref (h + 3), .ref (h + 4), .ref (h + 5), .ref (h + 6), .int 0, .int 0, .int 0, .int 0, .int 0, .int 0, .long 0, .int 0, .int 0, .int 0, .int 0, .int 0, .int 0, .ref (h + 7), .ref (h + 8), .int ((-1) : Int32), .ref (h + 9), .ref (h + 10), .int 0, .ref (h + 11), .ref (h + 12), .int 0, .ref (h + 13), .ref (h + 14), .int 0, .null, .null, .long 0, .long 0, .int 0, .null, .null, .null, .null]) _ _ _
  refine gc_aload_n C 0 d_Mod_init_123 rfl rfl ?_
  refine gc_iconst C ((-1) : Int32) d_Mod_init_124 (by decide) ?_
  refine gc_putI t_Mod C 35 (W1_c (Nat.le_of_ble_eq_true rfl)) W1_0 d_Mod_init_125 i_Mod rfl (by decide) qw_1200 rfl rfl t_Mod_ok n_Mod rfl (t_Mod_ok 35 (by decide)) rfl rfl (Nat.le_of_ble_eq_true rfl) ?_
  show GC E L _ 2 _ _ Q (W1 L (kI (kI mm_0 0 26 (-1)) 0 35 (-1)) h 15 11 [.int 0, .ref (h + 1), .int 0, .int 0, .int 0, .int 0, .ref (h + 2), .ref (h + 3), .ref (h + 4), .ref (h + 5), .ref (h + 6), .int 0, .int 0, .int 0, .int 0, .int 0, .int 0, .long 0, .int 0, .int 0, .int 0, .int 0, .int 0, .int 0, .ref (h + 7), .ref (h + 8), .int ((-1) : Int32), .ref (h + 9), .ref (h + 10), .int 0, .ref (h + 11), .ref (h + 12), .int 0, .ref (h + 13), .ref (h + 14), .int ((-1) : Int32), .null, .null, .long 0, .long 0, .int 0, .null, .null, .null, .null]) _ _ _
  refine gc_aload_n C 0 d_Mod_init_128 rfl rfl ?_
  refine gc_sipush C (1024 : Int32) d_Mod_init_129 (by decide) ?_
  refine gc_newa (n := 15) (ty := .int) 0 (1024, .inl (fun _ => 0)) C hs (W1_c (Nat.le_of_ble_eq_true rfl)) (W1_len (Nat.le_of_ble_eq_true rfl)) rfl d_Mod_init_132 rfl rfl (fun _ _ q => q) qw_54 (fun _ => rfl) (by decide) (by decide) (Nat.le_of_ble_eq_true rfl) (Nat.le_of_ble_eq_true rfl) (Nat.le_of_ble_eq_true rfl) ?_
  refine gc_ws (W1_push (Nat.le_of_ble_eq_true rfl) (by rw [hk]; show _ = Sum.inl (_, ly_z L 15, _); rw [hz]; rw [kI_o _ _ _ _ (by decide), kI_o _ _ _ _ (by decide)]; rfl)) ?_
  refine gc_putF t_Mod C hnm 36 (W1_c (Nat.le_of_ble_eq_true rfl)) W1_0 d_Mod_init_134 i_Mod rfl (by decide) qw_1201 rfl rfl t_Mod_ok n_Mod rfl (t_Mod_ok 36 (by decide)) rfl rfl (Nat.le_of_ble_eq_true rfl) ?_
  show GC E L _ 2 _ _ Q (W1 L (kI (kI mm_0 0 26 (-1)) 0 35 (-1)) h 16 11 [.int 0, .ref (h + 1), .int 0, .int 0, .int 0, .int 0, .ref (h + 2), .ref (h + 3), .ref (h + 4), .ref (h + 5), .ref (h + 6), .int 0, .int 0, .int 0, .int 0, .int 0, .int 0, .long 0, .int 0, .int 0, .int 0, .int 0, .int 0, .int 0, .ref (h + 7), .ref (h + 8), .int ((-1) : Int32), .ref (h + 9), .ref (h + 10), .int 0, .ref (h + 11), .ref (h + 12), .int 0, .ref (h + 13), .ref (h + 14), .int ((-1) : Int32), .ref (h + 15), .null, .long 0, .long 0, .int 0, .null, .null, .null, .null]) _ _ _
  refine gc_aload_n C 0 d_Mod_init_137 rfl rfl ?_
  refine gc_bipush C (8 : Int32) d_Mod_init_138 (by decide) ?_
  refine gc_newa (n := 16) (ty := .int) 0 (8, .inl (fun _ => 0)) C hs (W1_c (Nat.le_of_ble_eq_true rfl)) (W1_len (Nat.le_of_ble_eq_true rfl)) rfl d_Mod_init_140 rfl rfl (fun _ _ q => q) qw_54 (fun _ => rfl) (by decide) (by decide) (Nat.le_of_ble_eq_true rfl) (Nat.le_of_ble_eq_true rfl) (Nat.le_of_ble_eq_true rfl) ?_
  refine gc_ws (W1_push (Nat.le_of_ble_eq_true rfl) (by rw [hk]; show _ = Sum.inl (_, ly_z L 16, _); rw [hz]; rw [kI_o _ _ _ _ (by decide), kI_o _ _ _ _ (by decide)]; rfl)) ?_
  refine gc_putF t_Mod C hnm 37 (W1_c (Nat.le_of_ble_eq_true rfl)) W1_0 d_Mod_init_142 i_Mod rfl (by decide) qw_1202 rfl rfl t_Mod_ok n_Mod rfl (t_Mod_ok 37 (by decide)) rfl rfl (Nat.le_of_ble_eq_true rfl) ?_
  show GC E L _ 2 _ _ Q (W1 L (kI (kI mm_0 0 26 (-1)) 0 35 (-1)) h 17 11 [.int 0, .ref (h + 1), .int 0, .int 0, .int 0, .int 0, .ref (h + 2), .ref (h + 3), .ref (h + 4), .ref (h + 5), .ref (h + 6), .int 0, .int 0, .int 0, .int 0, .int 0, .int 0, .long 0, .int 0, .int 0, .int 0, .int 0, .int 0, .int 0, .ref (h + 7), .ref (h + 8), .int ((-1) : Int32), .ref (h + 9), .ref (h + 10), .int 0, .ref (h + 11), .ref (h + 12), .int 0, .ref (h + 13), .ref (h + 14), .int ((-1) : Int32), .ref (h + 15), .ref (h + 16), .long 0, .long 0, .int 0, .null, .null, .null, .null]) _ _ _
  refine gc_aload_n C 0 d_Mod_init_145 rfl rfl ?_
  refine gc_bipush C (13 : Int32) d_Mod_init_146 (by decide) ?_
  refine gc_newa (n := 17) (ty := .long) 1 (13, .inr (.inl (fun _ => 0))) C hs (W1_c (Nat.le_of_ble_eq_true rfl)) (W1_len (Nat.le_of_ble_eq_true rfl)) rfl d_Mod_init_148 rfl rfl (fun _ _ q => q) qw_121 (fun _ => rfl) (by decide) (by decide) (Nat.le_of_ble_eq_true rfl) (Nat.le_of_ble_eq_true rfl) (Nat.le_of_ble_eq_true rfl) ?_
  refine gc_ws (W1_push (Nat.le_of_ble_eq_true rfl) (by rw [hk]; show _ = Sum.inl (_, ly_z L 17, _); rw [hz]; rfl)) ?_
  refine gc_putF t_Mod C hnm 41 (W1_c (Nat.le_of_ble_eq_true rfl)) W1_0 d_Mod_init_150 i_Mod rfl (by decide) qw_1206 rfl rfl t_Mod_ok n_Mod rfl (t_Mod_ok 41 (by decide)) rfl rfl (Nat.le_of_ble_eq_true rfl) ?_
  show GC E L _ 2 _ _ Q (W1 L (kI (kI mm_0 0 26 (-1)) 0 35 (-1)) h 18 11 [.int 0, .ref (h + 1), .int 0, .int 0, .int 0, .int 0, .ref (h + 2), .ref (h + 3), .ref (h + 4), .ref (h + 5), .ref (h + 6), .int 0, .int 0, .int 0, .int 0, .int 0, .int 0, .long 0, .int 0, .int 0, .int 0, .int 0, .int 0, .int 0, .ref (h + 7), .ref (h + 8), .int ((-1) : Int32), .ref (h + 9), .ref (h + 10), .int 0, .ref (h + 11), .ref (h + 12), .int 0, .ref (h + 13), .ref (h + 14), .int ((-1) : Int32), .ref (h + 15), .ref (h + 16), .long 0, .long 0, .int 0, .ref (h + 17), .null, .null, .null]) _ _ _
  refine gc_aload_n C 0 d_Mod_init_153 rfl rfl ?_
  refine gc_sipush C (1488 : Int32) d_Mod_init_154 (by decide) ?_
  refine gc_newa (n := 18) (ty := .int) 0 (1488, .inl (fun _ => 0)) C hs (W1_c (Nat.le_of_ble_eq_true rfl)) (W1_len (Nat.le_of_ble_eq_true rfl)) rfl d_Mod_init_157 rfl rfl (fun _ _ q => q) qw_54 (fun _ => rfl) (by decide) (by decide) (Nat.le_of_ble_eq_true rfl) (Nat.le_of_ble_eq_true rfl) (Nat.le_of_ble_eq_true rfl) ?_
  refine gc_ws (W1_push (Nat.le_of_ble_eq_true rfl) (by rw [hk]; show _ = Sum.inl (_, ly_z L 18, _); rw [hz]; rw [kI_o _ _ _ _ (by decide), kI_o _ _ _ _ (by decide)]; rfl)) ?_
  refine gc_putF t_Mod C hnm 42 (W1_c (Nat.le_of_ble_eq_true rfl)) W1_0 d_Mod_init_159 i_Mod rfl (by decide) qw_1207 rfl rfl t_Mod_ok n_Mod rfl (t_Mod_ok 42 (by decide)) rfl rfl (Nat.le_of_ble_eq_true rfl) ?_
  show GC E L _ 2 _ _ Q (W1 L (kI (kI mm_0 0 26 (-1)) 0 35 (-1)) h 19 11 [.int 0, .ref (h + 1), .int 0, .int 0, .int 0, .int 0, .ref (h + 2), .ref (h + 3), .ref (h + 4), .ref (h + 5), .ref (h + 6), .int 0, .int 0, .int 0, .int 0, .int 0, .int 0, .long 0, .int 0, .int 0, .int 0, .int 0, .int 0, .int 0, .ref (h + 7), .ref (h + 8), .int ((-1) : Int32), .ref (h + 9), .ref (h + 10), .int 0, .ref (h + 11), .ref (h + 12), .int 0, .ref (h + 13), .ref (h + 14), .int ((-1) : Int32), .ref (h + 15), .ref (h + 16), .long 0, .long 0, .int 0, .ref (h + 17), .ref (h + 18), .null, .null]) _ _ _
  refine gc_aload_n C 0 d_Mod_init_162 rfl rfl ?_
  refine gc_bipush C (36 : Int32) d_Mod_init_163 (by decide) ?_
  refine gc_newa (n := 19) (ty := .long) 1 (36, .inr (.inl (fun _ => 0))) C hs (W1_c (Nat.le_of_ble_eq_true rfl)) (W1_len (Nat.le_of_ble_eq_true rfl)) rfl d_Mod_init_165 rfl rfl (fun _ _ q => q) qw_121 (fun _ => rfl) (by decide) (by decide) (Nat.le_of_ble_eq_true rfl) (Nat.le_of_ble_eq_true rfl) (Nat.le_of_ble_eq_true rfl) ?_
  refine gc_ws (W1_push (Nat.le_of_ble_eq_true rfl) (by rw [hk]; show _ = Sum.inl (_, ly_z L 19, _); rw [hz]; rfl)) ?_
  refine gc_putF t_Mod C hnm 43 (W1_c (Nat.le_of_ble_eq_true rfl)) W1_0 d_Mod_init_167 i_Mod rfl (by decide) qw_1208 rfl rfl t_Mod_ok n_Mod rfl (t_Mod_ok 43 (by decide)) rfl rfl (Nat.le_of_ble_eq_true rfl) ?_
  show GC E L _ 2 _ _ Q (W1 L (kI (kI mm_0 0 26 (-1)) 0 35 (-1)) h 20 11 [.int 0, .ref (h + 1), .int 0, .int 0, .int 0, .int 0, .ref (h + 2), .ref (h + 3), .ref (h + 4), .ref (h + 5), .ref (h + 6), .int 0, .int 0, .int 0, .int 0, .int 0, .int 0, .long 0, .int 0, .int 0, .int 0, .int 0, .int 0, .int 0, .ref (h + 7), .ref (h + 8), .int ((-1) : Int32), .ref (h + 9), .ref (h + 10), .int 0, .ref (h + 11), .ref (h + 12), .int 0, .ref (h + 13), .ref (h + 14), .int ((-1) : Int32), .ref (h + 15), .ref (h + 16), .long 0, .long 0, .int 0, .ref (h + 17), .ref (h + 18), .ref (h + 19), .null]) _ _ _
  refine gc_aload_n C 0 d_Mod_init_170 rfl rfl ?_
  refine gc_iconst C (2 : Int32) d_Mod_init_171 (by decide) ?_
  refine gc_newa (n := 20) (ty := .boolean) 3 (2, .inl (fun _ => 0)) C hs (W1_c (Nat.le_of_ble_eq_true rfl)) (W1_len (Nat.le_of_ble_eq_true rfl)) rfl d_Mod_init_172 rfl rfl (fun _ _ q => q) qw_1301 (fun _ => rfl) (by decide) (by decide) (Nat.le_of_ble_eq_true rfl) (Nat.le_of_ble_eq_true rfl) (Nat.le_of_ble_eq_true rfl) ?_
  refine gc_ws (W1_push (Nat.le_of_ble_eq_true rfl) (by rw [hk]; show _ = Sum.inl (_, ly_z L 20, _); rw [hz]; rw [kI_o _ _ _ _ (by decide), kI_o _ _ _ _ (by decide)]; rfl)) ?_
  refine gc_putF t_Mod C hnm 44 (W1_c (Nat.le_of_ble_eq_true rfl)) W1_0 d_Mod_init_174 i_Mod rfl (by decide) qw_1209 rfl rfl t_Mod_ok n_Mod rfl (t_Mod_ok 44 (by decide)) rfl rfl (Nat.le_of_ble_eq_true rfl) ?_
  show GC E L _ 2 _ _ Q (W1 L (kI (kI mm_0 0 26 (-1)) 0 35 (-1)) h 21 11 [.int 0, .ref (h + 1), .int 0, .int 0, .int 0, .int 0, .ref (h + 2), .ref (h + 3), .ref (h + 4), .ref (h + 5), .ref (h + 6), .int 0, .int 0, .int 0, .int 0, .int 0, .int 0, .long 0, .int 0, .int 0, .int 0, .int 0, .int 0, .int 0, .ref (h + 7), .ref (h + 8), .int ((-1) : Int32), .ref (h + 9), .ref (h + 10), .int 0, .ref (h + 11), .ref (h + 12), .int 0, .ref (h + 13), .ref (h + 14), .int ((-1) : Int32), .ref (h + 15), .ref (h + 16), .long 0, .long 0, .int 0, .ref (h + 17), .ref (h + 18), .ref (h + 19), .ref (h + 20)]) _ _ _
  have e9 : W1 L (kI (kI mm_0 0 26 (-1)) 0 35 (-1)) h 21 11 [.int 0, .ref (h + 1), .int 0, .int 0, .int 0, .int 0, .ref (h + 2), .ref (h + 3), .ref (h + 4), .ref (h + 5), .ref (h + 6), .int 0, .int 0, .int 0, .int 0, .int 0, .int 0, .long 0, .int 0, .int 0, .int 0, .int 0, .int 0, .int 0, .ref (h + 7), .ref (h + 8), .int ((-1) : Int32), .ref (h + 9), .ref (h + 10), .int 0, .ref (h + 11), .ref (h + 12), .int 0, .ref (h + 13), .ref (h + 14), .int ((-1) : Int32), .ref (h + 15), .ref (h + 16), .long 0, .long 0, .int 0, .ref (h + 17), .ref (h + 18), .ref (h + 19), .ref (h + 20)] = wl L (kI (kI mm_0 0 26 (-1)) 0 35 (-1)) := by
    have := W1_full (L := L) (σ := (kI (kI mm_0 0 26 (-1)) 0 35 (-1))) (h := h) (K := 11) (fs := [.int 0, .ref (h + 1), .int 0, .int 0, .int 0, .int 0, .ref (h + 2), .ref (h + 3), .ref (h + 4), .ref (h + 5), .ref (h + 6), .int 0, .int 0, .int 0, .int 0, .int 0, .int 0, .long 0, .int 0, .int 0, .int 0, .int 0, .int 0, .int 0, .ref (h + 7), .ref (h + 8), .int ((-1) : Int32), .ref (h + 9), .ref (h + 10), .int 0, .ref (h + 11), .ref (h + 12), .int 0, .ref (h + 13), .ref (h + 14), .int ((-1) : Int32), .ref (h + 15), .ref (h + 16), .long 0, .long 0, .int 0, .ref (h + 17), .ref (h + 18), .ref (h + 19), .ref (h + 20)]) ha (by rw [hn]; decide) (by rw [hk]; rfl) (by decide) (md_fs h)
    rw [hn] at this; exact this
  refine gc_ws e9 ?_
  refine gc_gw ?_
  refine gw_sub [0] (lv' := [(0, .ref (ly_a L 0))]) (by rw [ha]; rfl) ?_
  have k0 : ly_k L 0 = 11 := by rw [hk]; rfl
  have hf : f_Mod_init2 (ly_z L) (kI (kI mm_0 0 26 (-1)) 0 35 (-1)) 0 = some σM := by rw [hz]; exact hσ
  exact c_Mod_init2 rfl C k0 hf hN9

