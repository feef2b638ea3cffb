/-! NameHatModel.line()Z -/
abbrev b_Mod_line : ByteArray := prog_14_method_25_code
def y_Mod_line : MethodName := ⟨"NameHatModel", "line", "()Z"⟩
abbrev rm_Mod_line : Room := { frames := 4, cells := 0, slots := 0, locals := 87 }
theorem hd_Mod_line : y_Mod_line.cls ≠ "java/lang/invoke/MethodHandle" ∧ y_Mod_line.cls ≠ "java/lang/invoke/VarHandle" ∧ (parseMethodDescriptor y_Mod_line.desc).map (fun d => d.parameters.length) = some 0 := by decide +kernel
theorem d_Mod_line_0 : decode b_Mod_line 0 = .ok (.aload_n 0, 1) := by decide +kernel
theorem d_Mod_line_1 : decode b_Mod_line 1 = .ok (.ldc2_w 99, 3) := by decide +kernel
theorem d_Mod_line_4 : decode b_Mod_line 4 = .ok (.invokevirtual 190, 3) := by decide +kernel
theorem d_Mod_line_7 : decode b_Mod_line 7 = .ok (.ifCond .eq 8, 3) := by decide +kernel
theorem d_Mod_line_10 : decode b_Mod_line 10 = .ok (.aload_n 0, 1) := by decide +kernel
theorem d_Mod_line_11 : decode b_Mod_line 11 = .ok (.invokevirtual 194, 3) := by decide +kernel
theorem d_Mod_line_14 : decode b_Mod_line 14 = .ok (.ireturn, 1) := by decide +kernel
theorem d_Mod_line_15 : decode b_Mod_line 15 = .ok (.aload_n 0, 1) := by decide +kernel
theorem d_Mod_line_16 : decode b_Mod_line 16 = .ok (.ldc2_w 105, 3) := by decide +kernel
theorem d_Mod_line_19 : decode b_Mod_line 19 = .ok (.invokevirtual 190, 3) := by decide +kernel
theorem d_Mod_line_22 : decode b_Mod_line 22 = .ok (.ifCond .eq 8, 3) := by decide +kernel
theorem d_Mod_line_25 : decode b_Mod_line 25 = .ok (.aload_n 0, 1) := by decide +kernel
theorem d_Mod_line_26 : decode b_Mod_line 26 = .ok (.invokevirtual 197, 3) := by decide +kernel
theorem d_Mod_line_29 : decode b_Mod_line 29 = .ok (.ireturn, 1) := by decide +kernel
theorem d_Mod_line_30 : decode b_Mod_line 30 = .ok (.aload_n 0, 1) := by decide +kernel
theorem d_Mod_line_31 : decode b_Mod_line 31 = .ok (.ldc2_w 109, 3) := by decide +kernel
theorem d_Mod_line_34 : decode b_Mod_line 34 = .ok (.invokevirtual 190, 3) := by decide +kernel
theorem d_Mod_line_37 : decode b_Mod_line 37 = .ok (.ifCond .eq 8, 3) := by decide +kernel
theorem d_Mod_line_40 : decode b_Mod_line 40 = .ok (.aload_n 0, 1) := by decide +kernel
theorem d_Mod_line_41 : decode b_Mod_line 41 = .ok (.invokevirtual 200, 3) := by decide +kernel
theorem d_Mod_line_44 : decode b_Mod_line 44 = .ok (.ireturn, 1) := by decide +kernel
theorem d_Mod_line_45 : decode b_Mod_line 45 = .ok (.aload_n 0, 1) := by decide +kernel
theorem d_Mod_line_46 : decode b_Mod_line 46 = .ok (.ldc2_w 111, 3) := by decide +kernel
theorem d_Mod_line_49 : decode b_Mod_line 49 = .ok (.invokevirtual 190, 3) := by decide +kernel
theorem d_Mod_line_52 : decode b_Mod_line 52 = .ok (.ifCond .eq 8, 3) := by decide +kernel
theorem d_Mod_line_55 : decode b_Mod_line 55 = .ok (.aload_n 0, 1) := by decide +kernel
theorem d_Mod_line_56 : decode b_Mod_line 56 = .ok (.invokevirtual 203, 3) := by decide +kernel
theorem d_Mod_line_59 : decode b_Mod_line 59 = .ok (.ireturn, 1) := by decide +kernel
theorem d_Mod_line_60 : decode b_Mod_line 60 = .ok (.aload_n 0, 1) := by decide +kernel
theorem d_Mod_line_61 : decode b_Mod_line 61 = .ok (.ldc2_w 113, 3) := by decide +kernel
theorem d_Mod_line_64 : decode b_Mod_line 64 = .ok (.invokevirtual 190, 3) := by decide +kernel
theorem d_Mod_line_67 : decode b_Mod_line 67 = .ok (.ifCond .eq 77, 3) := by decide +kernel
theorem d_Mod_line_70 : decode b_Mod_line 70 = .ok (.aload_n 0, 1) := by decide +kernel
theorem d_Mod_line_71 : decode b_Mod_line 71 = .ok (.getfield 206, 3) := by decide +kernel
theorem d_Mod_line_74 : decode b_Mod_line 74 = .ok (.ifCond .ne 10, 3) := by decide +kernel
theorem d_Mod_line_77 : decode b_Mod_line 77 = .ok (.aload_n 0, 1) := by decide +kernel
theorem d_Mod_line_78 : decode b_Mod_line 78 = .ok (.getfield 210, 3) := by decide +kernel
theorem d_Mod_line_81 : decode b_Mod_line 81 = .ok (.ifCond .eq 9, 3) := by decide +kernel
theorem d_Mod_line_84 : decode b_Mod_line 84 = .ok (.aload_n 0, 1) := by decide +kernel
theorem d_Mod_line_85 : decode b_Mod_line 85 = .ok (.iconst 3, 1) := by decide +kernel
theorem d_Mod_line_86 : decode b_Mod_line 86 = .ok (.invokevirtual 169, 3) := by decide +kernel
theorem d_Mod_line_89 : decode b_Mod_line 89 = .ok (.ireturn, 1) := by decide +kernel
theorem d_Mod_line_90 : decode b_Mod_line 90 = .ok (.aload_n 0, 1) := by decide +kernel
theorem d_Mod_line_91 : decode b_Mod_line 91 = .ok (.iconst 1, 1) := by decide +kernel
theorem d_Mod_line_92 : decode b_Mod_line 92 = .ok (.putfield 206, 3) := by decide +kernel
theorem d_Mod_line_95 : decode b_Mod_line 95 = .ok (.aload_n 0, 1) := by decide +kernel
theorem d_Mod_line_96 : decode b_Mod_line 96 = .ok (.invokevirtual 172, 3) := by decide +kernel
theorem d_Mod_line_99 : decode b_Mod_line 99 = .ok (.aload_n 0, 1) := by decide +kernel
theorem d_Mod_line_100 : decode b_Mod_line 100 = .ok (.iconst 1, 1) := by decide +kernel
theorem d_Mod_line_101 : decode b_Mod_line 101 = .ok (.iconst 4, 1) := by decide +kernel
theorem d_Mod_line_102 : decode b_Mod_line 102 = .ok (.invokevirtual 213, 3) := by decide +kernel
theorem d_Mod_line_105 : decode b_Mod_line 105 = .ok (.ifCond .ne 5, 3) := by decide +kernel
theorem d_Mod_line_108 : decode b_Mod_line 108 = .ok (.iconst 0, 1) := by decide +kernel
theorem d_Mod_line_109 : decode b_Mod_line 109 = .ok (.ireturn, 1) := by decide +kernel
theorem d_Mod_line_110 : decode b_Mod_line 110 = .ok (.aload_n 0, 1) := by decide +kernel
theorem d_Mod_line_111 : decode b_Mod_line 111 = .ok (.getfield 37, 3) := by decide +kernel
theorem d_Mod_line_114 : decode b_Mod_line 114 = .ok (.iconst 2, 1) := by decide +kernel
theorem d_Mod_line_115 : decode b_Mod_line 115 = .ok (.aload_n 0, 1) := by decide +kernel
theorem d_Mod_line_116 : decode b_Mod_line 116 = .ok (.getfield 179, 3) := by decide +kernel
theorem d_Mod_line_119 : decode b_Mod_line 119 = .ok (.iastore, 1) := by decide +kernel
theorem d_Mod_line_120 : decode b_Mod_line 120 = .ok (.aload_n 0, 1) := by decide +kernel
theorem d_Mod_line_121 : decode b_Mod_line 121 = .ok (.iconst 1, 1) := by decide +kernel
theorem d_Mod_line_122 : decode b_Mod_line 122 = .ok (.bipush 8, 2) := by decide +kernel
theorem d_Mod_line_124 : decode b_Mod_line 124 = .ok (.invokevirtual 213, 3) := by decide +kernel
theorem d_Mod_line_127 : decode b_Mod_line 127 = .ok (.ifCond .ne 5, 3) := by decide +kernel
theorem d_Mod_line_130 : decode b_Mod_line 130 = .ok (.iconst 0, 1) := by decide +kernel
theorem d_Mod_line_131 : decode b_Mod_line 131 = .ok (.ireturn, 1) := by decide +kernel
theorem d_Mod_line_132 : decode b_Mod_line 132 = .ok (.aload_n 0, 1) := by decide +kernel
theorem d_Mod_line_133 : decode b_Mod_line 133 = .ok (.getfield 37, 3) := by decide +kernel
theorem d_Mod_line_136 : decode b_Mod_line 136 = .ok (.iconst 3, 1) := by decide +kernel
theorem d_Mod_line_137 : decode b_Mod_line 137 = .ok (.aload_n 0, 1) := by decide +kernel
theorem d_Mod_line_138 : decode b_Mod_line 138 = .ok (.getfield 179, 3) := by decide +kernel
theorem d_Mod_line_141 : decode b_Mod_line 141 = .ok (.iastore, 1) := by decide +kernel
theorem d_Mod_line_142 : decode b_Mod_line 142 = .ok (.iconst 1, 1) := by decide +kernel
theorem d_Mod_line_143 : decode b_Mod_line 143 = .ok (.ireturn, 1) := by decide +kernel
theorem d_Mod_line_144 : decode b_Mod_line 144 = .ok (.aload_n 0, 1) := by decide +kernel
theorem d_Mod_line_145 : decode b_Mod_line 145 = .ok (.ldc2_w 115, 3) := by decide +kernel
theorem d_Mod_line_148 : decode b_Mod_line 148 = .ok (.invokevirtual 190, 3) := by decide +kernel
theorem d_Mod_line_151 : decode b_Mod_line 151 = .ok (.ifCond .eq 103, 3) := by decide +kernel
theorem d_Mod_line_154 : decode b_Mod_line 154 = .ok (.aload_n 0, 1) := by decide +kernel
theorem d_Mod_line_155 : decode b_Mod_line 155 = .ok (.invokevirtual 172, 3) := by decide +kernel
theorem d_Mod_line_158 : decode b_Mod_line 158 = .ok (.aload_n 0, 1) := by decide +kernel
theorem d_Mod_line_159 : decode b_Mod_line 159 = .ok (.invokevirtual 182, 3) := by decide +kernel
theorem d_Mod_line_162 : decode b_Mod_line 162 = .ok (.ifCond .ne 9, 3) := by decide +kernel
theorem d_Mod_line_165 : decode b_Mod_line 165 = .ok (.aload_n 0, 1) := by decide +kernel
theorem d_Mod_line_166 : decode b_Mod_line 166 = .ok (.iconst 1, 1) := by decide +kernel
theorem d_Mod_line_167 : decode b_Mod_line 167 = .ok (.invokevirtual 169, 3) := by decide +kernel
theorem d_Mod_line_170 : decode b_Mod_line 170 = .ok (.ireturn, 1) := by decide +kernel
theorem d_Mod_line_171 : decode b_Mod_line 171 = .ok (.aload_n 0, 1) := by decide +kernel
theorem d_Mod_line_172 : decode b_Mod_line 172 = .ok (.bipush 28, 2) := by decide +kernel
theorem d_Mod_line_174 : decode b_Mod_line 174 = .ok (.aload_n 0, 1) := by decide +kernel
theorem d_Mod_line_175 : decode b_Mod_line 175 = .ok (.getfield 37, 3) := by decide +kernel
theorem d_Mod_line_178 : decode b_Mod_line 178 = .ok (.iconst 1, 1) := by decide +kernel
theorem d_Mod_line_179 : decode b_Mod_line 179 = .ok (.iaload, 1) := by decide +kernel
theorem d_Mod_line_180 : decode b_Mod_line 180 = .ok (.invokevirtual 186, 3) := by decide +kernel
theorem d_Mod_line_183 : decode b_Mod_line 183 = .ok (.istore_n 1, 1) := by decide +kernel
theorem d_Mod_line_184 : decode b_Mod_line 184 = .ok (.iload_n 1, 1) := by decide +kernel
theorem d_Mod_line_185 : decode b_Mod_line 185 = .ok (.ifCond .lt 14, 3) := by decide +kernel
theorem d_Mod_line_188 : decode b_Mod_line 188 = .ok (.aload_n 0, 1) := by decide +kernel
theorem d_Mod_line_189 : decode b_Mod_line 189 = .ok (.getfield 210, 3) := by decide +kernel
theorem d_Mod_line_192 : decode b_Mod_line 192 = .ok (.iload_n 1, 1) := by decide +kernel
theorem d_Mod_line_193 : decode b_Mod_line 193 = .ok (.invokestatic 217, 3) := by decide +kernel
theorem d_Mod_line_196 : decode b_Mod_line 196 = .ok (.ifCond .eq 9, 3) := by decide +kernel
theorem d_Mod_line_199 : decode b_Mod_line 199 = .ok (.aload_n 0, 1) := by decide +kernel
theorem d_Mod_line_200 : decode b_Mod_line 200 = .ok (.iconst 3, 1) := by decide +kernel
theorem d_Mod_line_201 : decode b_Mod_line 201 = .ok (.invokevirtual 169, 3) := by decide +kernel
theorem d_Mod_line_204 : decode b_Mod_line 204 = .ok (.ireturn, 1) := by decide +kernel
theorem d_Mod_line_205 : decode b_Mod_line 205 = .ok (.aload_n 0, 1) := by decide +kernel
theorem d_Mod_line_206 : decode b_Mod_line 206 = .ok (.dup, 1) := by decide +kernel
theorem d_Mod_line_207 : decode b_Mod_line 207 = .ok (.getfield 210, 3) := by decide +kernel
theorem d_Mod_line_210 : decode b_Mod_line 210 = .ok (.iconst 1, 1) := by decide +kernel
theorem d_Mod_line_211 : decode b_Mod_line 211 = .ok (.iload_n 1, 1) := by decide +kernel
theorem d_Mod_line_212 : decode b_Mod_line 212 = .ok (.ishl, 1) := by decide +kernel
theorem d_Mod_line_213 : decode b_Mod_line 213 = .ok (.ior, 1) := by decide +kernel
theorem d_Mod_line_214 : decode b_Mod_line 214 = .ok (.putfield 210, 3) := by decide +kernel
theorem d_Mod_line_217 : decode b_Mod_line 217 = .ok (.aload_n 0, 1) := by decide +kernel
theorem d_Mod_line_218 : decode b_Mod_line 218 = .ok (.invokevirtual 172, 3) := by decide +kernel
theorem d_Mod_line_221 : decode b_Mod_line 221 = .ok (.aload_n 0, 1) := by decide +kernel
theorem d_Mod_line_222 : decode b_Mod_line 222 = .ok (.iconst 0, 1) := by decide +kernel
theorem d_Mod_line_223 : decode b_Mod_line 223 = .ok (.aload_n 0, 1) := by decide +kernel
theorem d_Mod_line_224 : decode b_Mod_line 224 = .ok (.getfield 37, 3) := by decide +kernel
theorem d_Mod_line_227 : decode b_Mod_line 227 = .ok (.iconst 2, 1) := by decide +kernel
theorem d_Mod_line_228 : decode b_Mod_line 228 = .ok (.iaload, 1) := by decide +kernel
theorem d_Mod_line_229 : decode b_Mod_line 229 = .ok (.iconst 1, 1) := by decide +kernel
theorem d_Mod_line_230 : decode b_Mod_line 230 = .ok (.isub, 1) := by decide +kernel
theorem d_Mod_line_231 : decode b_Mod_line 231 = .ok (.invokevirtual 213, 3) := by decide +kernel
theorem d_Mod_line_234 : decode b_Mod_line 234 = .ok (.ifCond .ne 5, 3) := by decide +kernel
theorem d_Mod_line_237 : decode b_Mod_line 237 = .ok (.iconst 0, 1) := by decide +kernel
theorem d_Mod_line_238 : decode b_Mod_line 238 = .ok (.ireturn, 1) := by decide +kernel
theorem d_Mod_line_239 : decode b_Mod_line 239 = .ok (.aload_n 0, 1) := by decide +kernel
theorem d_Mod_line_240 : decode b_Mod_line 240 = .ok (.getfield 37, 3) := by decide +kernel
theorem d_Mod_line_243 : decode b_Mod_line 243 = .ok (.bipush 115, 2) := by decide +kernel
theorem d_Mod_line_245 : decode b_Mod_line 245 = .ok (.iload_n 1, 1) := by decide +kernel
theorem d_Mod_line_246 : decode b_Mod_line 246 = .ok (.iadd, 1) := by decide +kernel
theorem d_Mod_line_247 : decode b_Mod_line 247 = .ok (.aload_n 0, 1) := by decide +kernel
theorem d_Mod_line_248 : decode b_Mod_line 248 = .ok (.getfield 179, 3) := by decide +kernel
theorem d_Mod_line_251 : decode b_Mod_line 251 = .ok (.iastore, 1) := by decide +kernel
theorem d_Mod_line_252 : decode b_Mod_line 252 = .ok (.iconst 1, 1) := by decide +kernel
theorem d_Mod_line_253 : decode b_Mod_line 253 = .ok (.ireturn, 1) := by decide +kernel
theorem d_Mod_line_254 : decode b_Mod_line 254 = .ok (.aload_n 0, 1) := by decide +kernel
theorem d_Mod_line_255 : decode b_Mod_line 255 = .ok (.ldc2_w 117, 3) := by decide +kernel
theorem d_Mod_line_258 : decode b_Mod_line 258 = .ok (.invokevirtual 190, 3) := by decide +kernel
theorem d_Mod_line_261 : decode b_Mod_line 261 = .ok (.ifCond .ne 9, 3) := by decide +kernel
theorem d_Mod_line_264 : decode b_Mod_line 264 = .ok (.aload_n 0, 1) := by decide +kernel
theorem d_Mod_line_265 : decode b_Mod_line 265 = .ok (.iconst 1, 1) := by decide +kernel
theorem d_Mod_line_266 : decode b_Mod_line 266 = .ok (.invokevirtual 169, 3) := by decide +kernel
theorem d_Mod_line_269 : decode b_Mod_line 269 = .ok (.ireturn, 1) := by decide +kernel
theorem d_Mod_line_270 : decode b_Mod_line 270 = .ok (.aload_n 0, 1) := by decide +kernel
theorem d_Mod_line_271 : decode b_Mod_line 271 = .ok (.getfield 220, 3) := by decide +kernel
theorem d_Mod_line_274 : decode b_Mod_line 274 = .ok (.ifCond .eq 9, 3) := by decide +kernel
theorem d_Mod_line_277 : decode b_Mod_line 277 = .ok (.aload_n 0, 1) := by decide +kernel
theorem d_Mod_line_278 : decode b_Mod_line 278 = .ok (.iconst 3, 1) := by decide +kernel
theorem d_Mod_line_279 : decode b_Mod_line 279 = .ok (.invokevirtual 169, 3) := by decide +kernel
theorem d_Mod_line_282 : decode b_Mod_line 282 = .ok (.ireturn, 1) := by decide +kernel
theorem d_Mod_line_283 : decode b_Mod_line 283 = .ok (.aload_n 0, 1) := by decide +kernel
theorem d_Mod_line_284 : decode b_Mod_line 284 = .ok (.iconst 1, 1) := by decide +kernel
theorem d_Mod_line_285 : decode b_Mod_line 285 = .ok (.putfield 220, 3) := by decide +kernel
theorem d_Mod_line_288 : decode b_Mod_line 288 = .ok (.aload_n 0, 1) := by decide +kernel
theorem d_Mod_line_289 : decode b_Mod_line 289 = .ok (.invokevirtual 172, 3) := by decide +kernel
theorem d_Mod_line_292 : decode b_Mod_line 292 = .ok (.aload_n 0, 1) := by decide +kernel
theorem d_Mod_line_293 : decode b_Mod_line 293 = .ok (.iconst 0, 1) := by decide +kernel
theorem d_Mod_line_294 : decode b_Mod_line 294 = .ok (.bipush 99, 2) := by decide +kernel
theorem d_Mod_line_296 : decode b_Mod_line 296 = .ok (.invokevirtual 213, 3) := by decide +kernel
theorem d_Mod_line_299 : decode b_Mod_line 299 = .ok (.ifCond .ne 5, 3) := by decide +kernel
theorem d_Mod_line_302 : decode b_Mod_line 302 = .ok (.iconst 0, 1) := by decide +kernel
theorem d_Mod_line_303 : decode b_Mod_line 303 = .ok (.ireturn, 1) := by decide +kernel
theorem d_Mod_line_304 : decode b_Mod_line 304 = .ok (.aload_n 0, 1) := by decide +kernel
theorem d_Mod_line_305 : decode b_Mod_line 305 = .ok (.getfield 37, 3) := by decide +kernel
theorem d_Mod_line_308 : decode b_Mod_line 308 = .ok (.iconst 4, 1) := by decide +kernel
theorem d_Mod_line_309 : decode b_Mod_line 309 = .ok (.aload_n 0, 1) := by decide +kernel
theorem d_Mod_line_310 : decode b_Mod_line 310 = .ok (.getfield 179, 3) := by decide +kernel
theorem d_Mod_line_313 : decode b_Mod_line 313 = .ok (.iastore, 1) := by decide +kernel
theorem d_Mod_line_314 : decode b_Mod_line 314 = .ok (.iconst 1, 1) := by decide +kernel
theorem d_Mod_line_315 : decode b_Mod_line 315 = .ok (.ireturn, 1) := by decide +kernel
noncomputable def f_Mod_line_J199 (z : Nat → Nat) (o : Nat) (m199 : Mm) : Option (Int32 × Mm) :=
  (f_Mod_bad z m199 o (3 : Int32)).bind fun q201 =>
  (mm_zb q201.1).bind fun y204 =>
  some (y204, q201.2)
noncomputable def f_Mod_line_J84 (z : Nat → Nat) (o : Nat) (m84 : Mm) : Option (Int32 × Mm) :=
  (f_Mod_bad z m84 o (3 : Int32)).bind fun q86 =>
  (mm_zb q86.1).bind fun y89 =>
  some (y89, q86.2)
noncomputable def f_Mod_line (z : Nat → Nat) (σ : Mm) (o : Nat) : Option (Int32 × Mm) :=
  (f_Mod_isWord z σ o (1851878757 : Int64)).bind fun q4 =>
  if q4 = 0 then (
    (f_Mod_isWord z σ o (448546567013 : Int64)).bind fun q19 =>
    if q19 = 0 then (
      (f_Mod_isWord z σ o (512735736947 : Int64)).bind fun q34 =>
      if q34 = 0 then (
        (f_Mod_isWord z σ o (1717925220 : Int64)).bind fun q49 =>
        if q49 = 0 then (
          (f_Mod_isWord z σ o (1885697907 : Int64)).bind fun q64 =>
          if q64 = 0 then (
            (f_Mod_isWord z σ o (1936290931 : Int64)).bind fun q148 =>
            if q148 = 0 then (
              (f_Mod_isWord z σ o (439854918756 : Int64)).bind fun q258 =>
              if q258 = 0 then (
                (f_Mod_bad z σ o (1 : Int32)).bind fun q266 =>
                (mm_zb q266.1).bind fun y269 =>
                some (y269, q266.2)
              ) else (
                if (σ.1 o 22) = 0 then (
                  mm_lt (kI σ o 22 (1 : Int32)) fun m285 =>
                  (f_Mod_next z m285 o).bind fun q289 =>
                  (f_Mod_takes z q289 o (0 : Int32) (99 : Int32)).bind fun q296 =>
                  if q296.1 = 0 then (
                    some ((0 : Int32), q296.2)
                  ) else (
                    (mm_stI q296.2 (o + 3) (z (o + 3)) (4 : Int32) (q296.2.1 o 18)).bind fun m313 =>
                    some ((1 : Int32), m313)
                  )
                ) else (
                  (f_Mod_bad z σ o (3 : Int32)).bind fun q279 =>
                  (mm_zb q279.1).bind fun y282 =>
                  some (y282, q279.2)
                )
              )
            ) else (
              (f_Mod_next z σ o).bind fun q155 =>
              (f_Mod_isName z q155 o).bind fun q159 =>
              if q159 = 0 then (
                (f_Mod_bad z q155 o (1 : Int32)).bind fun q167 =>
                (mm_zb q167.1).bind fun y170 =>
                some (y170, q167.2)
              ) else (
                (mm_ldI (q155.1 (o + 3)) (z (o + 3)) (1 : Int32)).bind fun x179 =>
                (f_Mod_find z q155 o (28 : Int32) x179).bind fun q180 =>
                if q180 < 0 then (
                  f_Mod_line_J199 z o q155
                ) else (
                  (f_Mod_has z q155 (q155.1 o 20) q180).bind fun q193 =>
                  if q193 = 0 then (
                    mm_lt (kI q155 o 20 ((q155.1 o 20) ||| ((1 : Int32) <<< (q180 &&& 31)))) fun m214 =>
                    (f_Mod_next z m214 o).bind fun q218 =>
                    (mm_ldI (q218.1 (o + 3)) (z (o + 3)) (2 : Int32)).bind fun x228 =>
                    (f_Mod_takes z q218 o (0 : Int32) (x228 - (1 : Int32))).bind fun q231 =>
                    if q231.1 = 0 then (
                      some ((0 : Int32), q231.2)
                    ) else (
                      (mm_stI q231.2 (o + 3) (z (o + 3)) ((115 : Int32) + q180) (q231.2.1 o 18)).bind fun m251 =>
                      some ((1 : Int32), m251)
                    )
                  ) else (
                    f_Mod_line_J199 z o q155
                  )
                )
              )
            )
          ) else (
            if (σ.1 o 21) = 0 then (
              if (σ.1 o 20) = 0 then (
                mm_lt (kI σ o 21 (1 : Int32)) fun m92 =>
                (f_Mod_next z m92 o).bind fun q96 =>
                (f_Mod_takes z q96 o (1 : Int32) (4 : Int32)).bind fun q102 =>
                if q102.1 = 0 then (
                  some ((0 : Int32), q102.2)
                ) else (
                  (mm_stI q102.2 (o + 3) (z (o + 3)) (2 : Int32) (q102.2.1 o 18)).bind fun m119 =>
                  (f_Mod_takes z m119 o (1 : Int32) (8 : Int32)).bind fun q124 =>
                  if q124.1 = 0 then (
                    some ((0 : Int32), q124.2)
                  ) else (
                    (mm_stI q124.2 (o + 3) (z (o + 3)) (3 : Int32) (q124.2.1 o 18)).bind fun m141 =>
                    some ((1 : Int32), m141)
                  )
                )
              ) else (
                f_Mod_line_J84 z o σ
              )
            ) else (
              f_Mod_line_J84 z o σ
            )
          )
        ) else (
          (f_Mod_readFeud z σ o).bind fun q56 =>
          (mm_zb q56.1).bind fun y59 =>
          some (y59, q56.2)
        )
      ) else (
        (f_Mod_readWants z σ o).bind fun q41 =>
        (mm_zb q41.1).bind fun y44 =>
        some (y44, q41.2)
      )
    ) else (
      (f_Mod_readHouse z σ o).bind fun q26 =>
      (mm_zb q26.1).bind fun y29 =>
      some (y29, q26.2)
    )
  ) else (
    (f_Mod_readName z σ o).bind fun q11 =>
    (mm_zb q11.1).bind fun y14 =>
    some (y14, q11.2)
  )
set_option maxHeartbeats 4000000 in
set_option maxRecDepth 100000 in
theorem c_Mod_line (l : Launch) {L : Ly} (hg : gd_ok L) {σ : Mm} {o : Nat} (k_o_0 : ly_k L o = 11) {res : Int32 × Mm} (hf0 : f_Mod_line (ly_z L) σ o = some res) : CtI l y_Mod_line b_Mod_line 2 (some .boolean) rm_Mod_line L [.ref (ly_a L o)] σ res.1 res.2 := by
  refine ct_z hg (by decide) (Nat.le_of_ble_eq_true rfl) ?_
  intro E A Q hE C hN
  subst hE
  have k_o_3 : ly_k L (o + 3) = 20 := gd_Mod_h hg k_o_0
  unfold f_Mod_line at hf0
  show GW E L A 2 0 0 Q σ 0 [(0, .ref (ly_a L o))] []
  have hj199 : ∀ (m199 : Mm), f_Mod_line_J199 (ly_z L) o m199 = some res → GW E L A 2 0 0 Q m199 199 [(0, .ref (ly_a L o))] [] := by
    intro m199 hf0
    unfold f_Mod_line_J199 at hf0
    refine gw_aload_n C 0 d_Mod_line_199 rfl rfl ?_
    refine gw_iconst C (3 : Int32) d_Mod_line_200 (by decide) ?_
    obtain ⟨q201, hq201, hf0⟩ := mx_bd hf0
    refine gw_callI C (c_Mod_bad _ hg k_o_0 hq201) d_Mod_line_201 1 qw_1336 qw_1338 qs_43 qw_12 qw_1339 k_o_0 (by decide) rfl hd_Mod_bad rfl rfl (Nat.le_of_ble_eq_true rfl) ⟨rfl, rfl, Nat.le_of_ble_eq_true rfl, Nat.le_of_ble_eq_true rfl⟩ ⟨Nat.zero_le _, Nat.zero_le _⟩ ?_
    obtain ⟨y204, hy204, hf0⟩ := mx_bd hf0
    obtain ⟨zy204, ey204⟩ := mx_zb hy204
    refine gw_topi ey204 ?_
    exact en_z hN zy204 hf0 d_Mod_line_204
  have hj84 : ∀ (m84 : Mm), f_Mod_line_J84 (ly_z L) o m84 = some res → GW E L A 2 0 0 Q m84 84 [(0, .ref (ly_a L o))] [] := by
    intro m84 hf0
    unfold f_Mod_line_J84 at hf0
    refine gw_aload_n C 0 d_Mod_line_84 rfl rfl ?_
    refine gw_iconst C (3 : Int32) d_Mod_line_85 (by decide) ?_
    obtain ⟨q86, hq86, hf0⟩ := mx_bd hf0
    refine gw_callI C (c_Mod_bad _ hg k_o_0 hq86) d_Mod_line_86 1 qw_1336 qw_1338 qs_43 qw_12 qw_1339 k_o_0 (by decide) rfl hd_Mod_bad rfl rfl (Nat.le_of_ble_eq_true rfl) ⟨rfl, rfl, Nat.le_of_ble_eq_true rfl, Nat.le_of_ble_eq_true rfl⟩ ⟨Nat.zero_le _, Nat.zero_le _⟩ ?_
    obtain ⟨y89, hy89, hf0⟩ := mx_bd hf0
    obtain ⟨zy89, ey89⟩ := mx_zb hy89
    refine gw_topi ey89 ?_
    exact en_z hN zy89 hf0 d_Mod_line_89
  refine gw_aload_n C 0 d_Mod_line_0 rfl rfl ?_
  refine gw_ldc2_w C d_Mod_line_1 qw_1148 ?_
  obtain ⟨q4, hq4, hf0⟩ := mx_bd hf0
  refine gw_callI C (c_Mod_isWord _ hg k_o_0 hq4) d_Mod_line_4 1 qw_1328 qw_1330 qs_41 qw_12 qw_1331 k_o_0 (by decide) rfl hd_Mod_isWord rfl rfl (Nat.le_of_ble_eq_true rfl) ⟨rfl, rfl, Nat.le_of_ble_eq_true rfl, Nat.le_of_ble_eq_true rfl⟩ ⟨Nat.zero_le _, Nat.zero_le _⟩ ?_
  refine gw_if_eq C 15 d_Mod_line_7 (by decide) (fun hc => ?_) (fun hc => ?_)
  · replace hf0 := mx_t hc hf0
    refine gw_aload_n C 0 d_Mod_line_15 rfl rfl ?_
    refine gw_ldc2_w C d_Mod_line_16 qw_1151 ?_
    obtain ⟨q19, hq19, hf0⟩ := mx_bd hf0
    refine gw_callI C (c_Mod_isWord _ hg k_o_0 hq19) d_Mod_line_19 1 qw_1328 qw_1330 qs_41 qw_12 qw_1331 k_o_0 (by decide) rfl hd_Mod_isWord rfl rfl (Nat.le_of_ble_eq_true rfl) ⟨rfl, rfl, Nat.le_of_ble_eq_true rfl, Nat.le_of_ble_eq_true rfl⟩ ⟨Nat.zero_le _, Nat.zero_le _⟩ ?_
    refine gw_if_eq C 30 d_Mod_line_22 (by decide) (fun hc => ?_) (fun hc => ?_)
    · replace hf0 := mx_t hc hf0
      refine gw_aload_n C 0 d_Mod_line_30 rfl rfl ?_
      refine gw_ldc2_w C d_Mod_line_31 qw_1153 ?_
      obtain ⟨q34, hq34, hf0⟩ := mx_bd hf0
      refine gw_callI C (c_Mod_isWord _ hg k_o_0 hq34) d_Mod_line_34 1 qw_1328 qw_1330 qs_41 qw_12 qw_1331 k_o_0 (by decide) rfl hd_Mod_isWord rfl rfl (Nat.le_of_ble_eq_true rfl) ⟨rfl, rfl, Nat.le_of_ble_eq_true rfl, Nat.le_of_ble_eq_true rfl⟩ ⟨Nat.zero_le _, Nat.zero_le _⟩ ?_
      refine gw_if_eq C 45 d_Mod_line_37 (by decide) (fun hc => ?_) (fun hc => ?_)
      · replace hf0 := mx_t hc hf0
        refine gw_aload_n C 0 d_Mod_line_45 rfl rfl ?_
        refine gw_ldc2_w C d_Mod_line_46 qw_1154 ?_
        obtain ⟨q49, hq49, hf0⟩ := mx_bd hf0
        refine gw_callI C (c_Mod_isWord _ hg k_o_0 hq49) d_Mod_line_49 1 qw_1328 qw_1330 qs_41 qw_12 qw_1331 k_o_0 (by decide) rfl hd_Mod_isWord rfl rfl (Nat.le_of_ble_eq_true rfl) ⟨rfl, rfl, Nat.le_of_ble_eq_true rfl, Nat.le_of_ble_eq_true rfl⟩ ⟨Nat.zero_le _, Nat.zero_le _⟩ ?_
        refine gw_if_eq C 60 d_Mod_line_52 (by decide) (fun hc => ?_) (fun hc => ?_)
        · replace hf0 := mx_t hc hf0
          refine gw_aload_n C 0 d_Mod_line_60 rfl rfl ?_
          refine gw_ldc2_w C d_Mod_line_61 qw_1155 ?_
          obtain ⟨q64, hq64, hf0⟩ := mx_bd hf0
          refine gw_callI C (c_Mod_isWord _ hg k_o_0 hq64) d_Mod_line_64 1 qw_1328 qw_1330 qs_41 qw_12 qw_1331 k_o_0 (by decide) rfl hd_Mod_isWord rfl rfl (Nat.le_of_ble_eq_true rfl) ⟨rfl, rfl, Nat.le_of_ble_eq_true rfl, Nat.le_of_ble_eq_true rfl⟩ ⟨Nat.zero_le _, Nat.zero_le _⟩ ?_
          refine gw_if_eq C 144 d_Mod_line_67 (by decide) (fun hc => ?_) (fun hc => ?_)
          · replace hf0 := mx_t hc hf0
            refine gw_aload_n C 0 d_Mod_line_144 rfl rfl ?_
            refine gw_ldc2_w C d_Mod_line_145 qw_1156 ?_
            obtain ⟨q148, hq148, hf0⟩ := mx_bd hf0
            refine gw_callI C (c_Mod_isWord _ hg k_o_0 hq148) d_Mod_line_148 1 qw_1328 qw_1330 qs_41 qw_12 qw_1331 k_o_0 (by decide) rfl hd_Mod_isWord rfl rfl (Nat.le_of_ble_eq_true rfl) ⟨rfl, rfl, Nat.le_of_ble_eq_true rfl, Nat.le_of_ble_eq_true rfl⟩ ⟨Nat.zero_le _, Nat.zero_le _⟩ ?_
            refine gw_if_eq C 254 d_Mod_line_151 (by decide) (fun hc => ?_) (fun hc => ?_)
            · replace hf0 := mx_t hc hf0
              refine gw_aload_n C 0 d_Mod_line_254 rfl rfl ?_
              refine gw_ldc2_w C d_Mod_line_255 qw_1157 ?_
              obtain ⟨q258, hq258, hf0⟩ := mx_bd hf0
              refine gw_callI C (c_Mod_isWord _ hg k_o_0 hq258) d_Mod_line_258 1 qw_1328 qw_1330 qs_41 qw_12 qw_1331 k_o_0 (by decide) rfl hd_Mod_isWord rfl rfl (Nat.le_of_ble_eq_true rfl) ⟨rfl, rfl, Nat.le_of_ble_eq_true rfl, Nat.le_of_ble_eq_true rfl⟩ ⟨Nat.zero_le _, Nat.zero_le _⟩ ?_
              refine gw_if_ne C 270 d_Mod_line_261 (by decide) (fun hc => ?_) (fun hc => ?_)
              · replace hf0 := mx_f hc hf0
                refine gw_aload_n C 0 d_Mod_line_270 rfl rfl ?_
                refine gw_getI C 22 d_Mod_line_271 k_o_0 (by decide) i_Mod rfl rfl (by decide) qw_1187 rfl rfl ?_
                refine gw_if_eq C 283 d_Mod_line_274 (by decide) (fun hc => ?_) (fun hc => ?_)
                · replace hf0 := mx_t hc hf0
                  refine gw_aload_n C 0 d_Mod_line_283 rfl rfl ?_
                  refine gw_iconst C (1 : Int32) d_Mod_line_284 (by decide) ?_
                  obtain ⟨m285, em285, hf0⟩ := mx_lt hf0
                  refine gw_putI t_Mod C 22 d_Mod_line_285 k_o_0 (by decide) i_Mod rfl rfl (by decide) qw_1187 rfl rfl t_Mod_ok n_Mod rfl (t_Mod_ok 22 (by decide)) rfl rfl em285 ?_
                  refine gw_aload_n C 0 d_Mod_line_288 rfl rfl ?_
                  obtain ⟨q289, hq289, hf0⟩ := mx_bd hf0
                  refine gw_callV C (c_Mod_next _ hg k_o_0 hq289) d_Mod_line_289 0 qw_1310 qw_1312 qs_38 qw_12 qw_1313 k_o_0 (by decide) rfl hd_Mod_next rfl rfl (Nat.le_of_ble_eq_true rfl) ⟨rfl, rfl, Nat.le_of_ble_eq_true rfl, Nat.le_of_ble_eq_true rfl⟩ ⟨Nat.zero_le _, Nat.zero_le _⟩ ?_
                  refine gw_aload_n C 0 d_Mod_line_292 rfl rfl ?_
                  refine gw_iconst C (0 : Int32) d_Mod_line_293 (by decide) ?_
                  refine gw_bipush C (99 : Int32) d_Mod_line_294 (by decide) ?_
                  obtain ⟨q296, hq296, hf0⟩ := mx_bd hf0
                  refine gw_callI C (c_Mod_takes _ hg k_o_0 hq296) d_Mod_line_296 2 qw_1352 qw_1354 qs_47 qw_12 qw_1355 k_o_0 (by decide) rfl hd_Mod_takes rfl rfl (Nat.le_of_ble_eq_true rfl) ⟨rfl, rfl, Nat.le_of_ble_eq_true rfl, Nat.le_of_ble_eq_true rfl⟩ ⟨Nat.zero_le _, Nat.zero_le _⟩ ?_
                  refine gw_if_ne C 304 d_Mod_line_299 (by decide) (fun hc => ?_) (fun hc => ?_)
                  · replace hf0 := mx_f hc hf0
                    refine gw_aload_n C 0 d_Mod_line_304 rfl rfl ?_
                    refine gw_getA C 7 d_Mod_line_305 k_o_0 (by decide) i_Mod rfl rfl (by decide) qw_1172 rfl rfl (o + 3) rfl ?_
                    refine gw_iconst C (4 : Int32) d_Mod_line_308 (by decide) ?_
                    refine gw_aload_n C 0 d_Mod_line_309 rfl rfl ?_
                    refine gw_getI C 18 d_Mod_line_310 k_o_0 (by decide) i_Mod rfl rfl (by decide) qw_1183 rfl rfl ?_
                    obtain ⟨m313, hm313, hf0⟩ := mx_bd hf0
                    obtain ⟨gm313, em313⟩ := mx_stI hm313
                    refine gw_iast C d_Mod_line_313 k_o_3 gm313 em313 ?_
                    refine gw_iconst C (1 : Int32) d_Mod_line_314 (by decide) ?_
                    exact en_z hN (Or.inr rfl) hf0 d_Mod_line_315
                  · replace hf0 := mx_t hc hf0
                    refine gw_iconst C (0 : Int32) d_Mod_line_302 (by decide) ?_
                    exact en_z hN (Or.inl rfl) hf0 d_Mod_line_303
                · replace hf0 := mx_f hc hf0
                  refine gw_aload_n C 0 d_Mod_line_277 rfl rfl ?_
                  refine gw_iconst C (3 : Int32) d_Mod_line_278 (by decide) ?_
                  obtain ⟨q279, hq279, hf0⟩ := mx_bd hf0
                  refine gw_callI C (c_Mod_bad _ hg k_o_0 hq279) d_Mod_line_279 1 qw_1336 qw_1338 qs_43 qw_12 qw_1339 k_o_0 (by decide) rfl hd_Mod_bad rfl rfl (Nat.le_of_ble_eq_true rfl) ⟨rfl, rfl, Nat.le_of_ble_eq_true rfl, Nat.le_of_ble_eq_true rfl⟩ ⟨Nat.zero_le _, Nat.zero_le _⟩ ?_
                  obtain ⟨y282, hy282, hf0⟩ := mx_bd hf0
                  obtain ⟨zy282, ey282⟩ := mx_zb hy282
                  refine gw_topi ey282 ?_
                  exact en_z hN zy282 hf0 d_Mod_line_282
              · replace hf0 := mx_t hc hf0
                refine gw_aload_n C 0 d_Mod_line_264 rfl rfl ?_
                refine gw_iconst C (1 : Int32) d_Mod_line_265 (by decide) ?_
                obtain ⟨q266, hq266, hf0⟩ := mx_bd hf0
                refine gw_callI C (c_Mod_bad _ hg k_o_0 hq266) d_Mod_line_266 1 qw_1336 qw_1338 qs_43 qw_12 qw_1339 k_o_0 (by decide) rfl hd_Mod_bad rfl rfl (Nat.le_of_ble_eq_true rfl) ⟨rfl, rfl, Nat.le_of_ble_eq_true rfl, Nat.le_of_ble_eq_true rfl⟩ ⟨Nat.zero_le _, Nat.zero_le _⟩ ?_
                obtain ⟨y269, hy269, hf0⟩ := mx_bd hf0
                obtain ⟨zy269, ey269⟩ := mx_zb hy269
                refine gw_topi ey269 ?_
                exact en_z hN zy269 hf0 d_Mod_line_269
            · replace hf0 := mx_f hc hf0
              refine gw_aload_n C 0 d_Mod_line_154 rfl rfl ?_
              obtain ⟨q155, hq155, hf0⟩ := mx_bd hf0
              refine gw_callV C (c_Mod_next _ hg k_o_0 hq155) d_Mod_line_155 0 qw_1310 qw_1312 qs_38 qw_12 qw_1313 k_o_0 (by decide) rfl hd_Mod_next rfl rfl (Nat.le_of_ble_eq_true rfl) ⟨rfl, rfl, Nat.le_of_ble_eq_true rfl, Nat.le_of_ble_eq_true rfl⟩ ⟨Nat.zero_le _, Nat.zero_le _⟩ ?_
              refine gw_aload_n C 0 d_Mod_line_158 rfl rfl ?_
              obtain ⟨q159, hq159, hf0⟩ := mx_bd hf0
              refine gw_callI C (c_Mod_isName _ hg k_o_0 hq159) d_Mod_line_159 0 qw_1344 qw_1346 qs_45 qw_12 qw_1347 k_o_0 (by decide) rfl hd_Mod_isName rfl rfl (Nat.le_of_ble_eq_true rfl) ⟨rfl, rfl, Nat.le_of_ble_eq_true rfl, Nat.le_of_ble_eq_true rfl⟩ ⟨Nat.zero_le _, Nat.zero_le _⟩ ?_
              refine gw_if_ne C 171 d_Mod_line_162 (by decide) (fun hc => ?_) (fun hc => ?_)
              · replace hf0 := mx_f hc hf0
                refine gw_aload_n C 0 d_Mod_line_171 rfl rfl ?_
                refine gw_bipush C (28 : Int32) d_Mod_line_172 (by decide) ?_
                refine gw_aload_n C 0 d_Mod_line_174 rfl rfl ?_
                refine gw_getA C 7 d_Mod_line_175 k_o_0 (by decide) i_Mod rfl rfl (by decide) qw_1172 rfl rfl (o + 3) rfl ?_
                refine gw_iconst C (1 : Int32) d_Mod_line_178 (by decide) ?_
                obtain ⟨x179, hx179, hf0⟩ := mx_bd hf0
                obtain ⟨gx179, ex179⟩ := mx_ldI hx179
                refine gw_iald C d_Mod_line_179 k_o_3 gx179 ex179 ?_
                obtain ⟨q180, hq180, hf0⟩ := mx_bd hf0
                refine gw_callI C (c_Mod_find _ hg k_o_0 hq180) d_Mod_line_180 2 qw_1348 qw_1350 qs_46 qw_12 qw_1351 k_o_0 (by decide) rfl hd_Mod_find rfl rfl (Nat.le_of_ble_eq_true rfl) ⟨rfl, rfl, Nat.le_of_ble_eq_true rfl, Nat.le_of_ble_eq_true rfl⟩ ⟨Nat.zero_le _, Nat.zero_le _⟩ ?_
                refine gw_istore_n C [(1, .int q180), (0, .ref (ly_a L o))] d_Mod_line_183 rfl (by decide) rfl ?_
                refine gw_iload_n C 0 d_Mod_line_184 rfl rfl ?_
                refine gw_if_lt C 199 d_Mod_line_185 (by decide) (fun hc => ?_) (fun hc => ?_)
                · replace hf0 := mx_t hc hf0
                  exact gw_go [1] (hj199 _ hf0) rfl
                · replace hf0 := mx_f hc hf0
                  refine gw_aload_n C 1 d_Mod_line_188 rfl rfl ?_
                  refine gw_getI C 20 d_Mod_line_189 k_o_0 (by decide) i_Mod rfl rfl (by decide) qw_1185 rfl rfl ?_
                  refine gw_iload_n C 0 d_Mod_line_192 rfl rfl ?_
                  obtain ⟨q193, hq193, hf0⟩ := mx_bd hf0
                  refine gw_callIS C (c_Mod_has _ hg hq193) d_Mod_line_193 2 qw_1375 qw_1376 qw_12 qw_1377 hd_Mod_has rfl rfl (Nat.le_of_ble_eq_true rfl) ⟨rfl, rfl, Nat.le_of_ble_eq_true rfl, Nat.le_of_ble_eq_true rfl⟩ ⟨Nat.zero_le _, Nat.zero_le _⟩ ?_
                  refine gw_if_eq C 205 d_Mod_line_196 (by decide) (fun hc => ?_) (fun hc => ?_)
                  · replace hf0 := mx_t hc hf0
                    refine gw_aload_n C 1 d_Mod_line_205 rfl rfl ?_
                    refine gw_dup C d_Mod_line_206 rfl ?_
                    refine gw_getI C 20 d_Mod_line_207 k_o_0 (by decide) i_Mod rfl rfl (by decide) qw_1185 rfl rfl ?_
                    refine gw_iconst C (1 : Int32) d_Mod_line_210 (by decide) ?_
                    refine gw_iload_n C 0 d_Mod_line_211 rfl rfl ?_
                    refine gw_ishl C d_Mod_line_212 ?_
                    refine gw_ior C d_Mod_line_213 ?_
                    obtain ⟨m214, em214, hf0⟩ := mx_lt hf0
                    refine gw_putI t_Mod C 20 d_Mod_line_214 k_o_0 (by decide) i_Mod rfl rfl (by decide) qw_1185 rfl rfl t_Mod_ok n_Mod rfl (t_Mod_ok 20 (by decide)) rfl rfl em214 ?_
                    refine gw_aload_n C 1 d_Mod_line_217 rfl rfl ?_
                    obtain ⟨q218, hq218, hf0⟩ := mx_bd hf0
                    refine gw_callV C (c_Mod_next _ hg k_o_0 hq218) d_Mod_line_218 0 qw_1310 qw_1312 qs_38 qw_12 qw_1313 k_o_0 (by decide) rfl hd_Mod_next rfl rfl (Nat.le_of_ble_eq_true rfl) ⟨rfl, rfl, Nat.le_of_ble_eq_true rfl, Nat.le_of_ble_eq_true rfl⟩ ⟨Nat.zero_le _, Nat.zero_le _⟩ ?_
                    refine gw_aload_n C 1 d_Mod_line_221 rfl rfl ?_
                    refine gw_iconst C (0 : Int32) d_Mod_line_222 (by decide) ?_
                    refine gw_aload_n C 1 d_Mod_line_223 rfl rfl ?_
                    refine gw_getA C 7 d_Mod_line_224 k_o_0 (by decide) i_Mod rfl rfl (by decide) qw_1172 rfl rfl (o + 3) rfl ?_
                    refine gw_iconst C (2 : Int32) d_Mod_line_227 (by decide) ?_
                    obtain ⟨x228, hx228, hf0⟩ := mx_bd hf0
                    obtain ⟨gx228, ex228⟩ := mx_ldI hx228
                    refine gw_iald C d_Mod_line_228 k_o_3 gx228 ex228 ?_
                    refine gw_iconst C (1 : Int32) d_Mod_line_229 (by decide) ?_
                    refine gw_isub C d_Mod_line_230 ?_
                    obtain ⟨q231, hq231, hf0⟩ := mx_bd hf0
                    refine gw_callI C (c_Mod_takes _ hg k_o_0 hq231) d_Mod_line_231 2 qw_1352 qw_1354 qs_47 qw_12 qw_1355 k_o_0 (by decide) rfl hd_Mod_takes rfl rfl (Nat.le_of_ble_eq_true rfl) ⟨rfl, rfl, Nat.le_of_ble_eq_true rfl, Nat.le_of_ble_eq_true rfl⟩ ⟨Nat.zero_le _, Nat.zero_le _⟩ ?_
                    refine gw_if_ne C 239 d_Mod_line_234 (by decide) (fun hc => ?_) (fun hc => ?_)
                    · replace hf0 := mx_f hc hf0
                      refine gw_aload_n C 1 d_Mod_line_239 rfl rfl ?_
                      refine gw_getA C 7 d_Mod_line_240 k_o_0 (by decide) i_Mod rfl rfl (by decide) qw_1172 rfl rfl (o + 3) rfl ?_
                      refine gw_bipush C (115 : Int32) d_Mod_line_243 (by decide) ?_
                      refine gw_iload_n C 0 d_Mod_line_245 rfl rfl ?_
                      refine gw_iadd C d_Mod_line_246 ?_
                      refine gw_aload_n C 1 d_Mod_line_247 rfl rfl ?_
                      refine gw_getI C 18 d_Mod_line_248 k_o_0 (by decide) i_Mod rfl rfl (by decide) qw_1183 rfl rfl ?_
                      obtain ⟨m251, hm251, hf0⟩ := mx_bd hf0
                      obtain ⟨gm251, em251⟩ := mx_stI hm251
                      refine gw_iast C d_Mod_line_251 k_o_3 gm251 em251 ?_
                      refine gw_iconst C (1 : Int32) d_Mod_line_252 (by decide) ?_
                      exact en_z hN (Or.inr rfl) hf0 d_Mod_line_253
                    · replace hf0 := mx_t hc hf0
                      refine gw_iconst C (0 : Int32) d_Mod_line_237 (by decide) ?_
                      exact en_z hN (Or.inl rfl) hf0 d_Mod_line_238
                  · replace hf0 := mx_f hc hf0
                    exact gw_go [1] (hj199 _ hf0) rfl
              · replace hf0 := mx_t hc hf0
                refine gw_aload_n C 0 d_Mod_line_165 rfl rfl ?_
                refine gw_iconst C (1 : Int32) d_Mod_line_166 (by decide) ?_
                obtain ⟨q167, hq167, hf0⟩ := mx_bd hf0
                refine gw_callI C (c_Mod_bad _ hg k_o_0 hq167) d_Mod_line_167 1 qw_1336 qw_1338 qs_43 qw_12 qw_1339 k_o_0 (by decide) rfl hd_Mod_bad rfl rfl (Nat.le_of_ble_eq_true rfl) ⟨rfl, rfl, Nat.le_of_ble_eq_true rfl, Nat.le_of_ble_eq_true rfl⟩ ⟨Nat.zero_le _, Nat.zero_le _⟩ ?_
                obtain ⟨y170, hy170, hf0⟩ := mx_bd hf0
                obtain ⟨zy170, ey170⟩ := mx_zb hy170
                refine gw_topi ey170 ?_
                exact en_z hN zy170 hf0 d_Mod_line_170
          · replace hf0 := mx_f hc hf0
            refine gw_aload_n C 0 d_Mod_line_70 rfl rfl ?_
            refine gw_getI C 21 d_Mod_line_71 k_o_0 (by decide) i_Mod rfl rfl (by decide) qw_1186 rfl rfl ?_
            refine gw_if_ne C 84 d_Mod_line_74 (by decide) (fun hc => ?_) (fun hc => ?_)
            · replace hf0 := mx_f hc hf0
              exact gw_go [0] (hj84 _ hf0) rfl
            · replace hf0 := mx_t hc hf0
              refine gw_aload_n C 0 d_Mod_line_77 rfl rfl ?_
              refine gw_getI C 20 d_Mod_line_78 k_o_0 (by decide) i_Mod rfl rfl (by decide) qw_1185 rfl rfl ?_
              refine gw_if_eq C 90 d_Mod_line_81 (by decide) (fun hc => ?_) (fun hc => ?_)
              · replace hf0 := mx_t hc hf0
                refine gw_aload_n C 0 d_Mod_line_90 rfl rfl ?_
                refine gw_iconst C (1 : Int32) d_Mod_line_91 (by decide) ?_
                obtain ⟨m92, em92, hf0⟩ := mx_lt hf0
                refine gw_putI t_Mod C 21 d_Mod_line_92 k_o_0 (by decide) i_Mod rfl rfl (by decide) qw_1186 rfl rfl t_Mod_ok n_Mod rfl (t_Mod_ok 21 (by decide)) rfl rfl em92 ?_
                refine gw_aload_n C 0 d_Mod_line_95 rfl rfl ?_
                obtain ⟨q96, hq96, hf0⟩ := mx_bd hf0
                refine gw_callV C (c_Mod_next _ hg k_o_0 hq96) d_Mod_line_96 0 qw_1310 qw_1312 qs_38 qw_12 qw_1313 k_o_0 (by decide) rfl hd_Mod_next rfl rfl (Nat.le_of_ble_eq_true rfl) ⟨rfl, rfl, Nat.le_of_ble_eq_true rfl, Nat.le_of_ble_eq_true rfl⟩ ⟨Nat.zero_le _, Nat.zero_le _⟩ ?_
                refine gw_aload_n C 0 d_Mod_line_99 rfl rfl ?_
                refine gw_iconst C (1 : Int32) d_Mod_line_100 (by decide) ?_
                refine gw_iconst C (4 : Int32) d_Mod_line_101 (by decide) ?_
                obtain ⟨q102, hq102, hf0⟩ := mx_bd hf0
                refine gw_callI C (c_Mod_takes _ hg k_o_0 hq102) d_Mod_line_102 2 qw_1352 qw_1354 qs_47 qw_12 qw_1355 k_o_0 (by decide) rfl hd_Mod_takes rfl rfl (Nat.le_of_ble_eq_true rfl) ⟨rfl, rfl, Nat.le_of_ble_eq_true rfl, Nat.le_of_ble_eq_true rfl⟩ ⟨Nat.zero_le _, Nat.zero_le _⟩ ?_
                refine gw_if_ne C 110 d_Mod_line_105 (by decide) (fun hc => ?_) (fun hc => ?_)
                · replace hf0 := mx_f hc hf0
                  refine gw_aload_n C 0 d_Mod_line_110 rfl rfl ?_
                  refine gw_getA C 7 d_Mod_line_111 k_o_0 (by decide) i_Mod rfl rfl (by decide) qw_1172 rfl rfl (o + 3) rfl ?_
                  refine gw_iconst C (2 : Int32) d_Mod_line_114 (by decide) ?_
                  refine gw_aload_n C 0 d_Mod_line_115 rfl rfl ?_
                  refine gw_getI C 18 d_Mod_line_116 k_o_0 (by decide) i_Mod rfl rfl (by decide) qw_1183 rfl rfl ?_
                  obtain ⟨m119, hm119, hf0⟩ := mx_bd hf0
                  obtain ⟨gm119, em119⟩ := mx_stI hm119
                  refine gw_iast C d_Mod_line_119 k_o_3 gm119 em119 ?_
                  refine gw_aload_n C 0 d_Mod_line_120 rfl rfl ?_
                  refine gw_iconst C (1 : Int32) d_Mod_line_121 (by decide) ?_
                  refine gw_bipush C (8 : Int32) d_Mod_line_122 (by decide) ?_
                  obtain ⟨q124, hq124, hf0⟩ := mx_bd hf0
                  refine gw_callI C (c_Mod_takes _ hg k_o_0 hq124) d_Mod_line_124 2 qw_1352 qw_1354 qs_47 qw_12 qw_1355 k_o_0 (by decide) rfl hd_Mod_takes rfl rfl (Nat.le_of_ble_eq_true rfl) ⟨rfl, rfl, Nat.le_of_ble_eq_true rfl, Nat.le_of_ble_eq_true rfl⟩ ⟨Nat.zero_le _, Nat.zero_le _⟩ ?_
                  refine gw_if_ne C 132 d_Mod_line_127 (by decide) (fun hc => ?_) (fun hc => ?_)
                  · replace hf0 := mx_f hc hf0
                    refine gw_aload_n C 0 d_Mod_line_132 rfl rfl ?_
                    refine gw_getA C 7 d_Mod_line_133 k_o_0 (by decide) i_Mod rfl rfl (by decide) qw_1172 rfl rfl (o + 3) rfl ?_
                    refine gw_iconst C (3 : Int32) d_Mod_line_136 (by decide) ?_
                    refine gw_aload_n C 0 d_Mod_line_137 rfl rfl ?_
                    refine gw_getI C 18 d_Mod_line_138 k_o_0 (by decide) i_Mod rfl rfl (by decide) qw_1183 rfl rfl ?_
                    obtain ⟨m141, hm141, hf0⟩ := mx_bd hf0
                    obtain ⟨gm141, em141⟩ := mx_stI hm141
                    refine gw_iast C d_Mod_line_141 k_o_3 gm141 em141 ?_
                    refine gw_iconst C (1 : Int32) d_Mod_line_142 (by decide) ?_
                    exact en_z hN (Or.inr rfl) hf0 d_Mod_line_143
                  · replace hf0 := mx_t hc hf0
                    refine gw_iconst C (0 : Int32) d_Mod_line_130 (by decide) ?_
                    exact en_z hN (Or.inl rfl) hf0 d_Mod_line_131
                · replace hf0 := mx_t hc hf0
                  refine gw_iconst C (0 : Int32) d_Mod_line_108 (by decide) ?_
                  exact en_z hN (Or.inl rfl) hf0 d_Mod_line_109
              · replace hf0 := mx_f hc hf0
                exact gw_go [0] (hj84 _ hf0) rfl
        · replace hf0 := mx_f hc hf0
          refine gw_aload_n C 0 d_Mod_line_55 rfl rfl ?_
          obtain ⟨q56, hq56, hf0⟩ := mx_bd hf0
          refine gw_callI C (c_Mod_readFeud _ hg k_o_0 hq56) d_Mod_line_56 0 qw_1371 qw_1373 qs_51 qw_12 qw_1374 k_o_0 (by decide) rfl hd_Mod_readFeud rfl rfl (Nat.le_of_ble_eq_true rfl) ⟨rfl, rfl, Nat.le_of_ble_eq_true rfl, Nat.le_of_ble_eq_true rfl⟩ ⟨Nat.zero_le _, Nat.zero_le _⟩ ?_
          obtain ⟨y59, hy59, hf0⟩ := mx_bd hf0
          obtain ⟨zy59, ey59⟩ := mx_zb hy59
          refine gw_topi ey59 ?_
          exact en_z hN zy59 hf0 d_Mod_line_59
      · replace hf0 := mx_f hc hf0
        refine gw_aload_n C 0 d_Mod_line_40 rfl rfl ?_
        obtain ⟨q41, hq41, hf0⟩ := mx_bd hf0
        refine gw_callI C (c_Mod_readWants _ hg k_o_0 hq41) d_Mod_line_41 0 qw_1363 qw_1365 qs_49 qw_12 qw_1366 k_o_0 (by decide) rfl hd_Mod_readWants rfl rfl (Nat.le_of_ble_eq_true rfl) ⟨rfl, rfl, Nat.le_of_ble_eq_true rfl, Nat.le_of_ble_eq_true rfl⟩ ⟨Nat.zero_le _, Nat.zero_le _⟩ ?_
        obtain ⟨y44, hy44, hf0⟩ := mx_bd hf0
        obtain ⟨zy44, ey44⟩ := mx_zb hy44
        refine gw_topi ey44 ?_
        exact en_z hN zy44 hf0 d_Mod_line_44
    · replace hf0 := mx_f hc hf0
      refine gw_aload_n C 0 d_Mod_line_25 rfl rfl ?_
      obtain ⟨q26, hq26, hf0⟩ := mx_bd hf0
      refine gw_callI C (c_Mod_readHouse _ hg k_o_0 hq26) d_Mod_line_26 0 qw_1359 qw_1361 qs_48 qw_12 qw_1362 k_o_0 (by decide) rfl hd_Mod_readHouse rfl rfl (Nat.le_of_ble_eq_true rfl) ⟨rfl, rfl, Nat.le_of_ble_eq_true rfl, Nat.le_of_ble_eq_true rfl⟩ ⟨Nat.zero_le _, Nat.zero_le _⟩ ?_
      obtain ⟨y29, hy29, hf0⟩ := mx_bd hf0
      obtain ⟨zy29, ey29⟩ := mx_zb hy29
      refine gw_topi ey29 ?_
      exact en_z hN zy29 hf0 d_Mod_line_29
  · replace hf0 := mx_f hc hf0
    refine gw_aload_n C 0 d_Mod_line_10 rfl rfl ?_
    obtain ⟨q11, hq11, hf0⟩ := mx_bd hf0
    refine gw_callI C (c_Mod_readName _ hg k_o_0 hq11) d_Mod_line_11 0 qw_1332 qw_1334 qs_42 qw_12 qw_1335 k_o_0 (by decide) rfl hd_Mod_readName rfl rfl (Nat.le_of_ble_eq_true rfl) ⟨rfl, rfl, Nat.le_of_ble_eq_true rfl, Nat.le_of_ble_eq_true rfl⟩ ⟨Nat.zero_le _, Nat.zero_le _⟩ ?_
    obtain ⟨y14, hy14, hf0⟩ := mx_bd hf0
    obtain ⟨zy14, ey14⟩ := mx_zb hy14
    refine gw_topi ey14 ?_
    exact en_z hN zy14 hf0 d_Mod_line_14

/-! NameHatModel.island()I -/
abbrev b_Mod_island : ByteArray := prog_14_method_30_code
def y_Mod_island : MethodName := ⟨"NameHatModel", "island", "()I"⟩
abbrev rm_Mod_island : Room := { frames := 5, cells := 0, slots := 0, locals := 108 }
theorem hd_Mod_island : y_Mod_island.cls ≠ "java/lang/invoke/MethodHandle" ∧ y_Mod_island.cls ≠ "java/lang/invoke/VarHandle" ∧ (parseMethodDescriptor y_Mod_island.desc).map (fun d => d.parameters.length) = some 0 := by decide +kernel
theorem d_Mod_island_0 : decode b_Mod_island 0 = .ok (.aload_n 0, 1) := by decide +kernel
theorem d_Mod_island_1 : decode b_Mod_island 1 = .ok (.iconst 0, 1) := by decide +kernel
theorem d_Mod_island_2 : decode b_Mod_island 2 = .ok (.putfield 1, 3) := by decide +kernel
theorem d_Mod_island_5 : decode b_Mod_island 5 = .ok (.aload_n 0, 1) := by decide +kernel
theorem d_Mod_island_6 : decode b_Mod_island 6 = .ok (.sipush 900, 3) := by decide +kernel
theorem d_Mod_island_9 : decode b_Mod_island 9 = .ok (.invokevirtual 229, 3) := by decide +kernel
theorem d_Mod_island_12 : decode b_Mod_island 12 = .ok (.aload_n 0, 1) := by decide +kernel
theorem d_Mod_island_13 : decode b_Mod_island 13 = .ok (.iconst 0, 1) := by decide +kernel
theorem d_Mod_island_14 : decode b_Mod_island 14 = .ok (.putfield 160, 3) := by decide +kernel
theorem d_Mod_island_17 : decode b_Mod_island 17 = .ok (.aload_n 0, 1) := by decide +kernel
theorem d_Mod_island_18 : decode b_Mod_island 18 = .ok (.iconst 0, 1) := by decide +kernel
theorem d_Mod_island_19 : decode b_Mod_island 19 = .ok (.putfield 232, 3) := by decide +kernel
theorem d_Mod_island_22 : decode b_Mod_island 22 = .ok (.aload_n 0, 1) := by decide +kernel
theorem d_Mod_island_23 : decode b_Mod_island 23 = .ok (.iconst 0, 1) := by decide +kernel
theorem d_Mod_island_24 : decode b_Mod_island 24 = .ok (.putfield 210, 3) := by decide +kernel
theorem d_Mod_island_27 : decode b_Mod_island 27 = .ok (.aload_n 0, 1) := by decide +kernel
theorem d_Mod_island_28 : decode b_Mod_island 28 = .ok (.iconst 0, 1) := by decide +kernel
theorem d_Mod_island_29 : decode b_Mod_island 29 = .ok (.putfield 206, 3) := by decide +kernel
theorem d_Mod_island_32 : decode b_Mod_island 32 = .ok (.aload_n 0, 1) := by decide +kernel
theorem d_Mod_island_33 : decode b_Mod_island 33 = .ok (.iconst 0, 1) := by decide +kernel
theorem d_Mod_island_34 : decode b_Mod_island 34 = .ok (.putfield 220, 3) := by decide +kernel
theorem d_Mod_island_37 : decode b_Mod_island 37 = .ok (.iconst 0, 1) := by decide +kernel
theorem d_Mod_island_38 : decode b_Mod_island 38 = .ok (.istore_n 1, 1) := by decide +kernel
theorem d_Mod_island_39 : decode b_Mod_island 39 = .ok (.iload_n 1, 1) := by decide +kernel
theorem d_Mod_island_40 : decode b_Mod_island 40 = .ok (.sipush 131, 3) := by decide +kernel
theorem d_Mod_island_43 : decode b_Mod_island 43 = .ok (.if_icmp .ge 26, 3) := by decide +kernel
theorem d_Mod_island_46 : decode b_Mod_island 46 = .ok (.aload_n 0, 1) := by decide +kernel
theorem d_Mod_island_47 : decode b_Mod_island 47 = .ok (.getfield 37, 3) := by decide +kernel
theorem d_Mod_island_50 : decode b_Mod_island 50 = .ok (.iload_n 1, 1) := by decide +kernel
theorem d_Mod_island_51 : decode b_Mod_island 51 = .ok (.iload_n 1, 1) := by decide +kernel
theorem d_Mod_island_52 : decode b_Mod_island 52 = .ok (.bipush 123, 2) := by decide +kernel
theorem d_Mod_island_54 : decode b_Mod_island 54 = .ok (.if_icmp .lt 7, 3) := by decide +kernel
theorem d_Mod_island_57 : decode b_Mod_island 57 = .ok (.iconst (-1), 1) := by decide +kernel
theorem d_Mod_island_58 : decode b_Mod_island 58 = .ok (.goto 4, 3) := by decide +kernel
theorem d_Mod_island_61 : decode b_Mod_island 61 = .ok (.iconst 0, 1) := by decide +kernel
theorem d_Mod_island_62 : decode b_Mod_island 62 = .ok (.iastore, 1) := by decide +kernel
theorem d_Mod_island_63 : decode b_Mod_island 63 = .ok (.iinc 1 1, 3) := by decide +kernel
theorem d_Mod_island_66 : decode b_Mod_island 66 = .ok (.goto (-27), 3) := by decide +kernel
theorem d_Mod_island_69 : decode b_Mod_island 69 = .ok (.aload_n 0, 1) := by decide +kernel
theorem d_Mod_island_70 : decode b_Mod_island 70 = .ok (.getfield 37, 3) := by decide +kernel
theorem d_Mod_island_73 : decode b_Mod_island 73 = .ok (.iconst 2, 1) := by decide +kernel
theorem d_Mod_island_74 : decode b_Mod_island 74 = .ok (.iconst 1, 1) := by decide +kernel
theorem d_Mod_island_75 : decode b_Mod_island 75 = .ok (.iastore, 1) := by decide +kernel
theorem d_Mod_island_76 : decode b_Mod_island 76 = .ok (.aload_n 0, 1) := by decide +kernel
theorem d_Mod_island_77 : decode b_Mod_island 77 = .ok (.getfield 37, 3) := by decide +kernel
theorem d_Mod_island_80 : decode b_Mod_island 80 = .ok (.iconst 3, 1) := by decide +kernel
theorem d_Mod_island_81 : decode b_Mod_island 81 = .ok (.bipush 8, 2) := by decide +kernel
theorem d_Mod_island_83 : decode b_Mod_island 83 = .ok (.iastore, 1) := by decide +kernel
theorem d_Mod_island_84 : decode b_Mod_island 84 = .ok (.aload_n 0, 1) := by decide +kernel
theorem d_Mod_island_85 : decode b_Mod_island 85 = .ok (.invokevirtual 172, 3) := by decide +kernel
theorem d_Mod_island_88 : decode b_Mod_island 88 = .ok (.aload_n 0, 1) := by decide +kernel
theorem d_Mod_island_89 : decode b_Mod_island 89 = .ok (.getfield 143, 3) := by decide +kernel
theorem d_Mod_island_92 : decode b_Mod_island 92 = .ok (.ifCond .eq 39, 3) := by decide +kernel
theorem d_Mod_island_95 : decode b_Mod_island 95 = .ok (.aload_n 0, 1) := by decide +kernel
theorem d_Mod_island_96 : decode b_Mod_island 96 = .ok (.invokevirtual 235, 3) := by decide +kernel
theorem d_Mod_island_99 : decode b_Mod_island 99 = .ok (.ifCond .eq 12, 3) := by decide +kernel
theorem d_Mod_island_102 : decode b_Mod_island 102 = .ok (.aload_n 0, 1) := by decide +kernel
theorem d_Mod_island_103 : decode b_Mod_island 103 = .ok (.bipush 59, 2) := by decide +kernel
theorem d_Mod_island_105 : decode b_Mod_island 105 = .ok (.invokevirtual 238, 3) := by decide +kernel
theorem d_Mod_island_108 : decode b_Mod_island 108 = .ok (.ifCond .ne 10, 3) := by decide +kernel
theorem d_Mod_island_111 : decode b_Mod_island 111 = .ok (.iconst (-1), 1) := by decide +kernel
theorem d_Mod_island_112 : decode b_Mod_island 112 = .ok (.aload_n 0, 1) := by decide +kernel
theorem d_Mod_island_113 : decode b_Mod_island 113 = .ok (.getfield 163, 3) := by decide +kernel
theorem d_Mod_island_116 : decode b_Mod_island 116 = .ok (.isub, 1) := by decide +kernel
theorem d_Mod_island_117 : decode b_Mod_island 117 = .ok (.ireturn, 1) := by decide +kernel
theorem d_Mod_island_118 : decode b_Mod_island 118 = .ok (.aload_n 0, 1) := by decide +kernel
theorem d_Mod_island_119 : decode b_Mod_island 119 = .ok (.dup, 1) := by decide +kernel
theorem d_Mod_island_120 : decode b_Mod_island 120 = .ok (.getfield 232, 3) := by decide +kernel
theorem d_Mod_island_123 : decode b_Mod_island 123 = .ok (.iconst 1, 1) := by decide +kernel
theorem d_Mod_island_124 : decode b_Mod_island 124 = .ok (.iadd, 1) := by decide +kernel
theorem d_Mod_island_125 : decode b_Mod_island 125 = .ok (.putfield 232, 3) := by decide +kernel
theorem d_Mod_island_128 : decode b_Mod_island 128 = .ok (.goto (-40), 3) := by decide +kernel
theorem d_Mod_island_131 : decode b_Mod_island 131 = .ok (.iconst 0, 1) := by decide +kernel
theorem d_Mod_island_132 : decode b_Mod_island 132 = .ok (.istore_n 1, 1) := by decide +kernel
theorem d_Mod_island_133 : decode b_Mod_island 133 = .ok (.iload_n 1, 1) := by decide +kernel
theorem d_Mod_island_134 : decode b_Mod_island 134 = .ok (.sipush 744, 3) := by decide +kernel
theorem d_Mod_island_137 : decode b_Mod_island 137 = .ok (.if_icmp .ge 32, 3) := by decide +kernel
theorem d_Mod_island_140 : decode b_Mod_island 140 = .ok (.aload_n 0, 1) := by decide +kernel
theorem d_Mod_island_141 : decode b_Mod_island 141 = .ok (.getfield 33, 3) := by decide +kernel
theorem d_Mod_island_144 : decode b_Mod_island 144 = .ok (.iload_n 1, 1) := by decide +kernel
theorem d_Mod_island_145 : decode b_Mod_island 145 = .ok (.iload_n 1, 1) := by decide +kernel
theorem d_Mod_island_146 : decode b_Mod_island 146 = .ok (.sipush 131, 3) := by decide +kernel
theorem d_Mod_island_149 : decode b_Mod_island 149 = .ok (.if_icmp .ge 12, 3) := by decide +kernel
theorem d_Mod_island_152 : decode b_Mod_island 152 = .ok (.aload_n 0, 1) := by decide +kernel
theorem d_Mod_island_153 : decode b_Mod_island 153 = .ok (.getfield 37, 3) := by decide +kernel
theorem d_Mod_island_156 : decode b_Mod_island 156 = .ok (.iload_n 1, 1) := by decide +kernel
theorem d_Mod_island_157 : decode b_Mod_island 157 = .ok (.iaload, 1) := by decide +kernel
theorem d_Mod_island_158 : decode b_Mod_island 158 = .ok (.goto 4, 3) := by decide +kernel
theorem d_Mod_island_161 : decode b_Mod_island 161 = .ok (.iconst 0, 1) := by decide +kernel
theorem d_Mod_island_162 : decode b_Mod_island 162 = .ok (.iastore, 1) := by decide +kernel
theorem d_Mod_island_163 : decode b_Mod_island 163 = .ok (.iinc 1 1, 3) := by decide +kernel
theorem d_Mod_island_166 : decode b_Mod_island 166 = .ok (.goto (-33), 3) := by decide +kernel
theorem d_Mod_island_169 : decode b_Mod_island 169 = .ok (.iconst 0, 1) := by decide +kernel
theorem d_Mod_island_170 : decode b_Mod_island 170 = .ok (.istore_n 1, 1) := by decide +kernel
theorem d_Mod_island_171 : decode b_Mod_island 171 = .ok (.iload_n 1, 1) := by decide +kernel
theorem d_Mod_island_172 : decode b_Mod_island 172 = .ok (.bipush 18, 2) := by decide +kernel
theorem d_Mod_island_174 : decode b_Mod_island 174 = .ok (.if_icmp .ge 24, 3) := by decide +kernel
theorem d_Mod_island_177 : decode b_Mod_island 177 = .ok (.aload_n 0, 1) := by decide +kernel
theorem d_Mod_island_178 : decode b_Mod_island 178 = .ok (.getfield 43, 3) := by decide +kernel
theorem d_Mod_island_181 : decode b_Mod_island 181 = .ok (.iload_n 1, 1) := by decide +kernel
theorem d_Mod_island_182 : decode b_Mod_island 182 = .ok (.aload_n 0, 1) := by decide +kernel
theorem d_Mod_island_183 : decode b_Mod_island 183 = .ok (.getfield 43, 3) := by decide +kernel
theorem d_Mod_island_186 : decode b_Mod_island 186 = .ok (.bipush 18, 2) := by decide +kernel
theorem d_Mod_island_188 : decode b_Mod_island 188 = .ok (.iload_n 1, 1) := by decide +kernel
theorem d_Mod_island_189 : decode b_Mod_island 189 = .ok (.iadd, 1) := by decide +kernel
theorem d_Mod_island_190 : decode b_Mod_island 190 = .ok (.laload, 1) := by decide +kernel
theorem d_Mod_island_191 : decode b_Mod_island 191 = .ok (.lastore, 1) := by decide +kernel
theorem d_Mod_island_192 : decode b_Mod_island 192 = .ok (.iinc 1 1, 3) := by decide +kernel
theorem d_Mod_island_195 : decode b_Mod_island 195 = .ok (.goto (-24), 3) := by decide +kernel
theorem d_Mod_island_198 : decode b_Mod_island 198 = .ok (.aload_n 0, 1) := by decide +kernel
theorem d_Mod_island_199 : decode b_Mod_island 199 = .ok (.getfield 232, 3) := by decide +kernel
theorem d_Mod_island_202 : decode b_Mod_island 202 = .ok (.ireturn, 1) := by decide +kernel
noncomputable def f_Mod_island_L39 (z : Nat → Nat) (o : Nat) (s39 : Int32 × Mm) : Option ((Int32 × Mm) ⊕ (Mm)) :=
  if (131 : Int32) ≤ s39.1 then (
    some (.inr s39.2)
  ) else (
    if s39.1 < (123 : Int32) then (
      (mm_stI s39.2 (o + 3) (z (o + 3)) s39.1 (0 : Int32)).bind fun m62 =>
      mm_lt (s39.1 + (1 : Int32)) fun x63 =>
      some (.inl (x63, m62))
    ) else (
      (mm_stI s39.2 (o + 3) (z (o + 3)) s39.1 ((-1) : Int32)).bind fun m62 =>
      mm_lt (s39.1 + (1 : Int32)) fun x63 =>
      some (.inl (x63, m62))
    )
  )
noncomputable def f_Mod_island_L88 (z : Nat → Nat) (o : Nat) (s88 : Mm) : Option ((Mm) ⊕ ((Int32 × Mm) ⊕ (Mm))) :=
  if (s88.1 o 11) = 0 then (
    some (.inr (.inr s88))
  ) else (
    (f_Mod_line z s88 o).bind fun q96 =>
    if q96.1 = 0 then (
      some (.inr (.inl ((((-1) : Int32) - (q96.2.1 o 16)), q96.2)))
    ) else (
      (f_Mod_sign z q96.2 o (59 : Int32)).bind fun q105 =>
      if q105.1 = 0 then (
        some (.inr (.inl ((((-1) : Int32) - (q105.2.1 o 16)), q105.2)))
      ) else (
        mm_lt (kI q105.2 o 19 ((q105.2.1 o 19) + (1 : Int32))) fun m125 =>
        some (.inl m125)
      )
    )
  )
noncomputable def f_Mod_island_L133 (z : Nat → Nat) (o : Nat) (s133 : Int32 × Mm) : Option ((Int32 × Mm) ⊕ (Mm)) :=
  if (744 : Int32) ≤ s133.1 then (
    some (.inr s133.2)
  ) else (
    if (131 : Int32) ≤ s133.1 then (
      (mm_stI s133.2 (o + 2) (z (o + 2)) s133.1 (0 : Int32)).bind fun m162 =>
      mm_lt (s133.1 + (1 : Int32)) fun x163 =>
      some (.inl (x163, m162))
    ) else (
      (mm_ldI (s133.2.1 (o + 3)) (z (o + 3)) s133.1).bind fun x157 =>
      (mm_stI s133.2 (o + 2) (z (o + 2)) s133.1 x157).bind fun m162 =>
      mm_lt (s133.1 + (1 : Int32)) fun x163 =>
      some (.inl (x163, m162))
    )
  )
noncomputable def f_Mod_island_L171 (z : Nat → Nat) (o : Nat) (s171 : Int32 × Mm) : Option ((Int32 × Mm) ⊕ (Mm)) :=
  if (18 : Int32) ≤ s171.1 then (
    some (.inr s171.2)
  ) else (
    (mm_ldL (s171.2.2 (o + 5)) (z (o + 5)) ((18 : Int32) + s171.1)).bind fun x190 =>
    (mm_stL s171.2 (o + 5) (z (o + 5)) s171.1 x190).bind fun m191 =>
    mm_lt (s171.1 + (1 : Int32)) fun x192 =>
    some (.inl (x192, m191))
  )
noncomputable def f_Mod_island (z : Nat → Nat) (σ : Mm) (o : Nat) : Option (Int32 × Mm) :=
  mm_lt (kI σ o 0 (0 : Int32)) fun m2 =>
  (f_Mod_taken z m2 o (900 : Int32)).bind fun q9 =>
  mm_lt (kI q9 o 15 (0 : Int32)) fun m14 =>
  mm_lt (kI m14 o 19 (0 : Int32)) fun m19 =>
  mm_lt (kI m19 o 20 (0 : Int32)) fun m24 =>
  mm_lt (kI m24 o 21 (0 : Int32)) fun m29 =>
  mm_lt (kI m29 o 22 (0 : Int32)) fun m34 =>
  (mm_lp (f_Mod_island_L39 z o) ((0 : Int32), m34)).bind (fun q39 =>
    (mm_stI q39 (o + 3) (z (o + 3)) (2 : Int32) (1 : Int32)).bind fun m75 =>
    (mm_stI m75 (o + 3) (z (o + 3)) (3 : Int32) (8 : Int32)).bind fun m83 =>
    (f_Mod_next z m83 o).bind fun q85 =>
    (mm_lp (f_Mod_island_L88 z o) q85).bind (Sum.elim (fun r9 => some r9) (fun x88_ =>
      (mm_lp (f_Mod_island_L133 z o) ((0 : Int32), x88_)).bind (fun q133 =>
        (mm_lp (f_Mod_island_L171 z o) ((0 : Int32), q133)).bind (fun q171 =>
          some ((q171.1 o 19), q171))))))
set_option maxHeartbeats 4000000 in
set_option maxRecDepth 100000 in
theorem c_Mod_island (l : Launch) {L : Ly} (hg : gd_ok L) {σ : Mm} {o : Nat} (k_o_0 : ly_k L o = 11) {res : Int32 × Mm} (hf0 : f_Mod_island (ly_z L) σ o = some res) : CtI l y_Mod_island b_Mod_island 2 (some .int) rm_Mod_island L [.ref (ly_a L o)] σ res.1 res.2 := by
  refine ct_i hg (by decide) (Nat.le_of_ble_eq_true rfl) ?_
  intro E A Q hE C hN
  subst hE
  have k_o_3 : ly_k L (o + 3) = 20 := gd_Mod_h hg k_o_0
  have k_o_2 : ly_k L (o + 2) = 20 := gd_Mod_s hg k_o_0
  have k_o_5 : ly_k L (o + 5) = 21 := gd_Mod_names hg k_o_0
  unfold f_Mod_island at hf0
  show GW E L A 2 0 0 Q σ 0 [(0, .ref (ly_a L o))] []
  refine gw_aload_n C 0 d_Mod_island_0 rfl rfl ?_
  refine gw_iconst C (0 : Int32) d_Mod_island_1 (by decide) ?_
  obtain ⟨m2, em2, hf0⟩ := mx_lt hf0
  refine gw_putI t_Mod C 0 d_Mod_island_2 k_o_0 (by decide) i_Mod rfl rfl (by decide) qw_1165 rfl rfl t_Mod_ok n_Mod rfl (t_Mod_ok 0 (by decide)) rfl rfl em2 ?_
  refine gw_aload_n C 0 d_Mod_island_5 rfl rfl ?_
  refine gw_sipush C (900 : Int32) d_Mod_island_6 (by decide) ?_
  obtain ⟨q9, hq9, hf0⟩ := mx_bd hf0
  refine gw_callV C (c_Mod_taken _ hg k_o_0 hq9) d_Mod_island_9 1 qw_1306 qw_1308 qs_37 qw_12 qw_1309 k_o_0 (by decide) rfl hd_Mod_taken rfl rfl (Nat.le_of_ble_eq_true rfl) ⟨rfl, rfl, Nat.le_of_ble_eq_true rfl, Nat.le_of_ble_eq_true rfl⟩ ⟨Nat.zero_le _, Nat.zero_le _⟩ ?_
  refine gw_aload_n C 0 d_Mod_island_12 rfl rfl ?_
  refine gw_iconst C (0 : Int32) d_Mod_island_13 (by decide) ?_
  obtain ⟨m14, em14, hf0⟩ := mx_lt hf0
  refine gw_putI t_Mod C 15 d_Mod_island_14 k_o_0 (by decide) i_Mod rfl rfl (by decide) qw_1180 rfl rfl t_Mod_ok n_Mod rfl (t_Mod_ok 15 (by decide)) rfl rfl em14 ?_
  refine gw_aload_n C 0 d_Mod_island_17 rfl rfl ?_
  refine gw_iconst C (0 : Int32) d_Mod_island_18 (by decide) ?_
  obtain ⟨m19, em19, hf0⟩ := mx_lt hf0
  refine gw_putI t_Mod C 19 d_Mod_island_19 k_o_0 (by decide) i_Mod rfl rfl (by decide) qw_1184 rfl rfl t_Mod_ok n_Mod rfl (t_Mod_ok 19 (by decide)) rfl rfl em19 ?_
  refine gw_aload_n C 0 d_Mod_island_22 rfl rfl ?_
  refine gw_iconst C (0 : Int32) d_Mod_island_23 (by decide) ?_
  obtain ⟨m24, em24, hf0⟩ := mx_lt hf0
  refine gw_putI t_Mod C 20 d_Mod_island_24 k_o_0 (by decide) i_Mod rfl rfl (by decide) qw_1185 rfl rfl t_Mod_ok n_Mod rfl (t_Mod_ok 20 (by decide)) rfl rfl em24 ?_
  refine gw_aload_n C 0 d_Mod_island_27 rfl rfl ?_
  refine gw_iconst C (0 : Int32) d_Mod_island_28 (by decide) ?_
  obtain ⟨m29, em29, hf0⟩ := mx_lt hf0
  refine gw_putI t_Mod C 21 d_Mod_island_29 k_o_0 (by decide) i_Mod rfl rfl (by decide) qw_1186 rfl rfl t_Mod_ok n_Mod rfl (t_Mod_ok 21 (by decide)) rfl rfl em29 ?_
  refine gw_aload_n C 0 d_Mod_island_32 rfl rfl ?_
  refine gw_iconst C (0 : Int32) d_Mod_island_33 (by decide) ?_
  obtain ⟨m34, em34, hf0⟩ := mx_lt hf0
  refine gw_putI t_Mod C 22 d_Mod_island_34 k_o_0 (by decide) i_Mod rfl rfl (by decide) qw_1187 rfl rfl t_Mod_ok n_Mod rfl (t_Mod_ok 22 (by decide)) rfl rfl em34 ?_
  refine gw_iconst C (0 : Int32) d_Mod_island_37 (by decide) ?_
  refine gw_istore_n C [(1, .int (0 : Int32)), (0, .ref (ly_a L o))] d_Mod_island_38 rfl (by decide) rfl ?_
  obtain ⟨q39, hq39, hf0⟩ := mx_bd hf0
  have hk39 : ∀ x9, q39 = x9 → GW E L A 2 0 0 Q x9 69 [(0, .ref (ly_a L o))] [] := by
    intro x9 hx9
    subst hx9
    refine gw_aload_n C 0 d_Mod_island_69 rfl rfl ?_
    refine gw_getA C 7 d_Mod_island_70 k_o_0 (by decide) i_Mod rfl rfl (by decide) qw_1172 rfl rfl (o + 3) rfl ?_
    refine gw_iconst C (2 : Int32) d_Mod_island_73 (by decide) ?_
    refine gw_iconst C (1 : Int32) d_Mod_island_74 (by decide) ?_
    obtain ⟨m75, hm75, hf0⟩ := mx_bd hf0
    obtain ⟨gm75, em75⟩ := mx_stI hm75
    refine gw_iast C d_Mod_island_75 k_o_3 gm75 em75 ?_
    refine gw_aload_n C 0 d_Mod_island_76 rfl rfl ?_
    refine gw_getA C 7 d_Mod_island_77 k_o_0 (by decide) i_Mod rfl rfl (by decide) qw_1172 rfl rfl (o + 3) rfl ?_
    refine gw_iconst C (3 : Int32) d_Mod_island_80 (by decide) ?_
    refine gw_bipush C (8 : Int32) d_Mod_island_81 (by decide) ?_
    obtain ⟨m83, hm83, hf0⟩ := mx_bd hf0
    obtain ⟨gm83, em83⟩ := mx_stI hm83
    refine gw_iast C d_Mod_island_83 k_o_3 gm83 em83 ?_
    refine gw_aload_n C 0 d_Mod_island_84 rfl rfl ?_
    obtain ⟨q85, hq85, hf0⟩ := mx_bd hf0
    refine gw_callV C (c_Mod_next _ hg k_o_0 hq85) d_Mod_island_85 0 qw_1310 qw_1312 qs_38 qw_12 qw_1313 k_o_0 (by decide) rfl hd_Mod_next rfl rfl (Nat.le_of_ble_eq_true rfl) ⟨rfl, rfl, Nat.le_of_ble_eq_true rfl, Nat.le_of_ble_eq_true rfl⟩ ⟨Nat.zero_le _, Nat.zero_le _⟩ ?_
    obtain ⟨q88, hq88, hf0⟩ := mx_bd hf0
    have hk88 : ∀ x88_, q88 = .inr x88_ → GW E L A 2 0 0 Q x88_ 131 [(0, .ref (ly_a L o))] [] := by
      intro x88_ hx9
      subst hx9
      replace hf0 := mx_sr hf0
      refine gw_iconst C (0 : Int32) d_Mod_island_131 (by decide) ?_
      refine gw_istore_n C [(1, .int (0 : Int32)), (0, .ref (ly_a L o))] d_Mod_island_132 rfl (by decide) rfl ?_
      obtain ⟨q133, hq133, hf0⟩ := mx_bd hf0
      have hk133 : ∀ x9, q133 = x9 → GW E L A 2 0 0 Q x9 169 [(0, .ref (ly_a L o))] [] := by
        intro x9 hx9
        subst hx9
        refine gw_iconst C (0 : Int32) d_Mod_island_169 (by decide) ?_
        refine gw_istore_n C [(1, .int (0 : Int32)), (0, .ref (ly_a L o))] d_Mod_island_170 rfl (by decide) rfl ?_
        obtain ⟨q171, hq171, hf0⟩ := mx_bd hf0
        have hk171 : ∀ x9, q171 = x9 → GW E L A 2 0 0 Q x9 198 [(0, .ref (ly_a L o))] [] := by
          intro x9 hx9
          subst hx9
          refine gw_aload_n C 0 d_Mod_island_198 rfl rfl ?_
          refine gw_getI C 19 d_Mod_island_199 k_o_0 (by decide) i_Mod rfl rfl (by decide) qw_1184 rfl rfl ?_
          exact en_i hN hf0 d_Mod_island_202
        refine gw_sub [1, 0] (lv' := [(0, .ref (ly_a L o)), (1, .int (0 : Int32))]) rfl ?_
        refine mm_rule hq171 (P := fun (s171 : Int32 × Mm) => GW E L A 2 0 0 Q s171.2 171 [(0, .ref (ly_a L o)), (1, .int s171.1)] []) ?_
        intro s171 ih171 hx171 ⟨w171, hb171⟩
        have hf1 := hb171
        unfold f_Mod_island_L171 at hf1
        refine gw_iload_n C 1 d_Mod_island_171 rfl rfl ?_
        refine gw_bipush C (18 : Int32) d_Mod_island_172 (by decide) ?_
        refine gw_icmp_ge C 198 d_Mod_island_174 (by decide) (fun hc => ?_) (fun hc => ?_)
        · replace hf1 := mx_t hc hf1
          exact gw_go [0] (hk171 s171.2 (hx171 _ (hb171.trans hf1.symm)).symm) rfl
        · replace hf1 := mx_f hc hf1
          refine gw_aload_n C 0 d_Mod_island_177 rfl rfl ?_
          refine gw_getA C 9 d_Mod_island_178 k_o_0 (by decide) i_Mod rfl rfl (by decide) qw_1174 rfl rfl (o + 5) rfl ?_
          refine gw_iload_n C 1 d_Mod_island_181 rfl rfl ?_
          refine gw_aload_n C 0 d_Mod_island_182 rfl rfl ?_
          refine gw_getA C 9 d_Mod_island_183 k_o_0 (by decide) i_Mod rfl rfl (by decide) qw_1174 rfl rfl (o + 5) rfl ?_
          refine gw_bipush C (18 : Int32) d_Mod_island_186 (by decide) ?_
          refine gw_iload_n C 1 d_Mod_island_188 rfl rfl ?_
          refine gw_iadd C d_Mod_island_189 ?_
          obtain ⟨x190, hx190, hf1⟩ := mx_bd hf1
          obtain ⟨gx190, ex190⟩ := mx_ldL hx190
          refine gw_lald C d_Mod_island_190 k_o_5 gx190 ex190 ?_
          obtain ⟨m191, hm191, hf1⟩ := mx_bd hf1
          obtain ⟨gm191, em191⟩ := mx_stL hm191
          refine gw_last C d_Mod_island_191 k_o_5 gm191 em191 ?_
          obtain ⟨x192, ex192, hf1⟩ := mx_lt hf1
          refine gw_iinc C 1 [(1, .int x192), (0, .ref (ly_a L o))] d_Mod_island_192 rfl (by rw [ex192]; rfl) (by decide) rfl ?_
          refine gw_goto C 171 d_Mod_island_195 (by decide) ?_
          exact gw_go [1, 0] (ih171 (x192, m191) (hb171.trans hf1.symm)) rfl
      refine gw_sub [1, 0] (lv' := [(0, .ref (ly_a L o)), (1, .int (0 : Int32))]) rfl ?_
      refine mm_rule hq133 (P := fun (s133 : Int32 × Mm) => GW E L A 2 0 0 Q s133.2 133 [(0, .ref (ly_a L o)), (1, .int s133.1)] []) ?_
      intro s133 ih133 hx133 ⟨w133, hb133⟩
      have hf1 := hb133
      unfold f_Mod_island_L133 at hf1
      refine gw_iload_n C 1 d_Mod_island_133 rfl rfl ?_
      refine gw_sipush C (744 : Int32) d_Mod_island_134 (by decide) ?_
      refine gw_icmp_ge C 169 d_Mod_island_137 (by decide) (fun hc => ?_) (fun hc => ?_)
      · replace hf1 := mx_t hc hf1
        exact gw_go [0] (hk133 s133.2 (hx133 _ (hb133.trans hf1.symm)).symm) rfl
      · replace hf1 := mx_f hc hf1
        refine gw_aload_n C 0 d_Mod_island_140 rfl rfl ?_
        refine gw_getA C 6 d_Mod_island_141 k_o_0 (by decide) i_Mod rfl rfl (by decide) qw_1171 rfl rfl (o + 2) rfl ?_
        refine gw_iload_n C 1 d_Mod_island_144 rfl rfl ?_
        refine gw_iload_n C 1 d_Mod_island_145 rfl rfl ?_
        refine gw_sipush C (131 : Int32) d_Mod_island_146 (by decide) ?_
        refine gw_icmp_ge C 161 d_Mod_island_149 (by decide) (fun hc => ?_) (fun hc => ?_)
        · replace hf1 := mx_t hc hf1
          refine gw_iconst C (0 : Int32) d_Mod_island_161 (by decide) ?_
          obtain ⟨m162, hm162, hf1⟩ := mx_bd hf1
          obtain ⟨gm162, em162⟩ := mx_stI hm162
          refine gw_iast C d_Mod_island_162 k_o_2 gm162 em162 ?_
          obtain ⟨x163, ex163, hf1⟩ := mx_lt hf1
          refine gw_iinc C 1 [(1, .int x163), (0, .ref (ly_a L o))] d_Mod_island_163 rfl (by rw [ex163]; rfl) (by decide) rfl ?_
          refine gw_goto C 133 d_Mod_island_166 (by decide) ?_
          exact gw_go [1, 0] (ih133 (x163, m162) (hb133.trans hf1.symm)) rfl
        · replace hf1 := mx_f hc hf1
          refine gw_aload_n C 0 d_Mod_island_152 rfl rfl ?_
          refine gw_getA C 7 d_Mod_island_153 k_o_0 (by decide) i_Mod rfl rfl (by decide) qw_1172 rfl rfl (o + 3) rfl ?_
          refine gw_iload_n C 1 d_Mod_island_156 rfl rfl ?_
          obtain ⟨x157, hx157, hf1⟩ := mx_bd hf1
          obtain ⟨gx157, ex157⟩ := mx_ldI hx157
          refine gw_iald C d_Mod_island_157 k_o_3 gx157 ex157 ?_
          refine gw_goto C 162 d_Mod_island_158 (by decide) ?_
          obtain ⟨m162, hm162, hf1⟩ := mx_bd hf1
          obtain ⟨gm162, em162⟩ := mx_stI hm162
          refine gw_iast C d_Mod_island_162 k_o_2 gm162 em162 ?_
          obtain ⟨x163, ex163, hf1⟩ := mx_lt hf1
          refine gw_iinc C 1 [(1, .int x163), (0, .ref (ly_a L o))] d_Mod_island_163 rfl (by rw [ex163]; rfl) (by decide) rfl ?_
          refine gw_goto C 133 d_Mod_island_166 (by decide) ?_
          exact gw_go [1, 0] (ih133 (x163, m162) (hb133.trans hf1.symm)) rfl
    refine gw_sub [0] (lv' := [(0, .ref (ly_a L o))]) rfl ?_
    refine mm_rule hq88 (P := fun (s88 : Mm) => GW E L A 2 0 0 Q s88 88 [(0, .ref (ly_a L o))] []) ?_
    intro s88 ih88 hx88 ⟨w88, hb88⟩
    have hf1 := hb88
    unfold f_Mod_island_L88 at hf1
    refine gw_aload_n C 0 d_Mod_island_88 rfl rfl ?_
    refine gw_getI C 11 d_Mod_island_89 k_o_0 (by decide) i_Mod rfl rfl (by decide) qw_1176 rfl rfl ?_
    refine gw_if_eq C 131 d_Mod_island_92 (by decide) (fun hc => ?_) (fun hc => ?_)
    · replace hf1 := mx_t hc hf1
      exact gw_go [0] (hk88 s88 (hx88 _ (hb88.trans hf1.symm)).symm) rfl
    · replace hf1 := mx_f hc hf1
      refine gw_aload_n C 0 d_Mod_island_95 rfl rfl ?_
      obtain ⟨q96, hq96, hf1⟩ := mx_bd hf1
      refine gw_callI C (c_Mod_line _ hg k_o_0 hq96) d_Mod_island_96 0 qw_1324 qw_1326 qs_40 qw_12 qw_1327 k_o_0 (by decide) rfl hd_Mod_line rfl rfl (Nat.le_of_ble_eq_true rfl) ⟨rfl, rfl, Nat.le_of_ble_eq_true rfl, Nat.le_of_ble_eq_true rfl⟩ ⟨Nat.zero_le _, Nat.zero_le _⟩ ?_
      refine gw_if_eq C 111 d_Mod_island_99 (by decide) (fun hc => ?_) (fun hc => ?_)
      · replace hf1 := mx_t hc hf1
        refine gw_iconst C ((-1) : Int32) d_Mod_island_111 (by decide) ?_
        refine gw_aload_n C 0 d_Mod_island_112 rfl rfl ?_
        refine gw_getI C 16 d_Mod_island_113 k_o_0 (by decide) i_Mod rfl rfl (by decide) qw_1181 rfl rfl ?_
        refine gw_isub C d_Mod_island_116 ?_
        have hr88 := hx88 _ (hb88.trans hf1.symm)
        subst hr88
        replace hf0 := mx_sl hf0
        exact en_i hN hf0 d_Mod_island_117
      · replace hf1 := mx_f hc hf1
        refine gw_aload_n C 0 d_Mod_island_102 rfl rfl ?_
        refine gw_bipush C (59 : Int32) d_Mod_island_103 (by decide) ?_
        obtain ⟨q105, hq105, hf1⟩ := mx_bd hf1
        refine gw_callI C (c_Mod_sign _ hg k_o_0 hq105) d_Mod_island_105 1 qw_1378 qw_1380 qs_52 qw_12 qw_1381 k_o_0 (by decide) rfl hd_Mod_sign rfl rfl (Nat.le_of_ble_eq_true rfl) ⟨rfl, rfl, Nat.le_of_ble_eq_true rfl, Nat.le_of_ble_eq_true rfl⟩ ⟨Nat.zero_le _, Nat.zero_le _⟩ ?_
        refine gw_if_ne C 118 d_Mod_island_108 (by decide) (fun hc => ?_) (fun hc => ?_)
        · replace hf1 := mx_f hc hf1
          refine gw_aload_n C 0 d_Mod_island_118 rfl rfl ?_
          refine gw_dup C d_Mod_island_119 rfl ?_
          refine gw_getI C 19 d_Mod_island_120 k_o_0 (by decide) i_Mod rfl rfl (by decide) qw_1184 rfl rfl ?_
          refine gw_iconst C (1 : Int32) d_Mod_island_123 (by decide) ?_
          refine gw_iadd C d_Mod_island_124 ?_
          obtain ⟨m125, em125, hf1⟩ := mx_lt hf1
          refine gw_putI t_Mod C 19 d_Mod_island_125 k_o_0 (by decide) i_Mod rfl rfl (by decide) qw_1184 rfl rfl t_Mod_ok n_Mod rfl (t_Mod_ok 19 (by decide)) rfl rfl em125 ?_
          refine gw_goto C 88 d_Mod_island_128 (by decide) ?_
          exact gw_go [0] (ih88 m125 (hb88.trans hf1.symm)) rfl
        · replace hf1 := mx_t hc hf1
          refine gw_iconst C ((-1) : Int32) d_Mod_island_111 (by decide) ?_
          refine gw_aload_n C 0 d_Mod_island_112 rfl rfl ?_
          refine gw_getI C 16 d_Mod_island_113 k_o_0 (by decide) i_Mod rfl rfl (by decide) qw_1181 rfl rfl ?_
          refine gw_isub C d_Mod_island_116 ?_
          have hr88 := hx88 _ (hb88.trans hf1.symm)
          subst hr88
          replace hf0 := mx_sl hf0
          exact en_i hN hf0 d_Mod_island_117
  refine gw_sub [1, 0] (lv' := [(0, .ref (ly_a L o)), (1, .int (0 : Int32))]) rfl ?_
  refine mm_rule hq39 (P := fun (s39 : Int32 × Mm) => GW E L A 2 0 0 Q s39.2 39 [(0, .ref (ly_a L o)), (1, .int s39.1)] []) ?_
  intro s39 ih39 hx39 ⟨w39, hb39⟩
  have hf1 := hb39
  unfold f_Mod_island_L39 at hf1
  refine gw_iload_n C 1 d_Mod_island_39 rfl rfl ?_
  refine gw_sipush C (131 : Int32) d_Mod_island_40 (by decide) ?_
  refine gw_icmp_ge C 69 d_Mod_island_43 (by decide) (fun hc => ?_) (fun hc => ?_)
  · replace hf1 := mx_t hc hf1
    exact gw_go [0] (hk39 s39.2 (hx39 _ (hb39.trans hf1.symm)).symm) rfl
  · replace hf1 := mx_f hc hf1
    refine gw_aload_n C 0 d_Mod_island_46 rfl rfl ?_
    refine gw_getA C 7 d_Mod_island_47 k_o_0 (by decide) i_Mod rfl rfl (by decide) qw_1172 rfl rfl (o + 3) rfl ?_
    refine gw_iload_n C 1 d_Mod_island_50 rfl rfl ?_
    refine gw_iload_n C 1 d_Mod_island_51 rfl rfl ?_
    refine gw_bipush C (123 : Int32) d_Mod_island_52 (by decide) ?_
    refine gw_icmp_lt C 61 d_Mod_island_54 (by decide) (fun hc => ?_) (fun hc => ?_)
    · replace hf1 := mx_t hc hf1
      refine gw_iconst C (0 : Int32) d_Mod_island_61 (by decide) ?_
      obtain ⟨m62, hm62, hf1⟩ := mx_bd hf1
      obtain ⟨gm62, em62⟩ := mx_stI hm62
      refine gw_iast C d_Mod_island_62 k_o_3 gm62 em62 ?_
      obtain ⟨x63, ex63, hf1⟩ := mx_lt hf1
      refine gw_iinc C 1 [(1, .int x63), (0, .ref (ly_a L o))] d_Mod_island_63 rfl (by rw [ex63]; rfl) (by decide) rfl ?_
      refine gw_goto C 39 d_Mod_island_66 (by decide) ?_
      exact gw_go [1, 0] (ih39 (x63, m62) (hb39.trans hf1.symm)) rfl
    · replace hf1 := mx_f hc hf1
      refine gw_iconst C ((-1) : Int32) d_Mod_island_57 (by decide) ?_
      refine gw_goto C 62 d_Mod_island_58 (by decide) ?_
      obtain ⟨m62, hm62, hf1⟩ := mx_bd hf1
      obtain ⟨gm62, em62⟩ := mx_stI hm62
      refine gw_iast C d_Mod_island_62 k_o_3 gm62 em62 ?_
      obtain ⟨x63, ex63, hf1⟩ := mx_lt hf1
      refine gw_iinc C 1 [(1, .int x63), (0, .ref (ly_a L o))] d_Mod_island_63 rfl (by rw [ex63]; rfl) (by decide) rfl ?_
      refine gw_goto C 39 d_Mod_island_66 (by decide) ?_
      exact gw_go [1, 0] (ih39 (x63, m62) (hb39.trans hf1.symm)) rfl

/-! NameHatModel.fault()I -/
abbrev b_Mod_fault : ByteArray := prog_14_method_31_code
def y_Mod_fault : MethodName := ⟨"NameHatModel", "fault", "()I"⟩
abbrev rm_Mod_fault : Room := { frames := 0, cells := 0, slots := 0, locals := 0 }
theorem hd_Mod_fault : y_Mod_fault.cls ≠ "java/lang/invoke/MethodHandle" ∧ y_Mod_fault.cls ≠ "java/lang/invoke/VarHandle" ∧ (parseMethodDescriptor y_Mod_fault.desc).map (fun d => d.parameters.length) = some 0 := by decide +kernel
theorem d_Mod_fault_0 : decode b_Mod_fault 0 = .ok (.aload_n 0, 1) := by decide +kernel
theorem d_Mod_fault_1 : decode b_Mod_fault 1 = .ok (.iconst 0, 1) := by decide +kernel
theorem d_Mod_fault_2 : decode b_Mod_fault 2 = .ok (.putfield 1, 3) := by decide +kernel
theorem d_Mod_fault_5 : decode b_Mod_fault 5 = .ok (.aload_n 0, 1) := by decide +kernel
theorem d_Mod_fault_6 : decode b_Mod_fault 6 = .ok (.getfield 160, 3) := by decide +kernel
theorem d_Mod_fault_9 : decode b_Mod_fault 9 = .ok (.ireturn, 1) := by decide +kernel
noncomputable def f_Mod_fault (z : Nat → Nat) (σ : Mm) (o : Nat) : Option (Int32 × Mm) :=
  mm_lt (kI σ o 0 (0 : Int32)) fun m2 =>
  some ((m2.1 o 15), m2)
set_option maxHeartbeats 4000000 in
set_option maxRecDepth 100000 in
theorem c_Mod_fault (l : Launch) {L : Ly} (hg : gd_ok L) {σ : Mm} {o : Nat} (k_o_0 : ly_k L o = 11) {res : Int32 × Mm} (hf0 : f_Mod_fault (ly_z L) σ o = some res) : CtI l y_Mod_fault b_Mod_fault 1 (some .int) rm_Mod_fault L [.ref (ly_a L o)] σ res.1 res.2 := by
  refine ct_i hg (by decide) (Nat.le_of_ble_eq_true rfl) ?_
  intro E A Q hE C hN
  subst hE
  unfold f_Mod_fault at hf0
  show GW E L A 1 0 0 Q σ 0 [(0, .ref (ly_a L o))] []
  refine gw_aload_n C 0 d_Mod_fault_0 rfl rfl ?_
  refine gw_iconst C (0 : Int32) d_Mod_fault_1 (by decide) ?_
  obtain ⟨m2, em2, hf0⟩ := mx_lt hf0
  refine gw_putI t_Mod C 0 d_Mod_fault_2 k_o_0 (by decide) i_Mod rfl rfl (by decide) qw_1165 rfl rfl t_Mod_ok n_Mod rfl (t_Mod_ok 0 (by decide)) rfl rfl em2 ?_
  refine gw_aload_n C 0 d_Mod_fault_5 rfl rfl ?_
  refine gw_getI C 15 d_Mod_fault_6 k_o_0 (by decide) i_Mod rfl rfl (by decide) qw_1180 rfl rfl ?_
  exact en_i hN hf0 d_Mod_fault_9

/-! NameHatModel.isSurname(I)Z -/
abbrev b_Mod_isSurname : ByteArray := prog_14_method_32_code
def y_Mod_isSurname : MethodName := ⟨"NameHatModel", "isSurname", "(I)Z"⟩
abbrev rm_Mod_isSurname : Room := { frames := 1, cells := 0, slots := 0, locals := 22 }
theorem hd_Mod_isSurname : y_Mod_isSurname.cls ≠ "java/lang/invoke/MethodHandle" ∧ y_Mod_isSurname.cls ≠ "java/lang/invoke/VarHandle" ∧ (parseMethodDescriptor y_Mod_isSurname.desc).map (fun d => d.parameters.length) = some 1 := by decide +kernel
theorem d_Mod_isSurname_0 : decode b_Mod_isSurname 0 = .ok (.iload_n 1, 1) := by decide +kernel
theorem d_Mod_isSurname_1 : decode b_Mod_isSurname 1 = .ok (.iconst 0, 1) := by decide +kernel
theorem d_Mod_isSurname_2 : decode b_Mod_isSurname 2 = .ok (.aload_n 0, 1) := by decide +kernel
theorem d_Mod_isSurname_3 : decode b_Mod_isSurname 3 = .ok (.getfield 33, 3) := by decide +kernel
theorem d_Mod_isSurname_6 : decode b_Mod_isSurname 6 = .ok (.iconst 0, 1) := by decide +kernel
theorem d_Mod_isSurname_7 : decode b_Mod_isSurname 7 = .ok (.iaload, 1) := by decide +kernel
theorem d_Mod_isSurname_8 : decode b_Mod_isSurname 8 = .ok (.iconst 1, 1) := by decide +kernel
theorem d_Mod_isSurname_9 : decode b_Mod_isSurname 9 = .ok (.isub, 1) := by decide +kernel
theorem d_Mod_isSurname_10 : decode b_Mod_isSurname 10 = .ok (.invokestatic 175, 3) := by decide +kernel
theorem d_Mod_isSurname_13 : decode b_Mod_isSurname 13 = .ok (.ireturn, 1) := by decide +kernel
noncomputable def f_Mod_isSurname (z : Nat → Nat) (σ : Mm) (o : Nat) (p1 : Int32) : Option (Int32) :=
  (mm_ldI (σ.1 (o + 2)) (z (o + 2)) (0 : Int32)).bind fun x7 =>
  (f_Mod_isIn z σ p1 (0 : Int32) (x7 - (1 : Int32))).bind fun q10 =>
  (mm_zb q10).bind fun y13 =>
  some y13
set_option maxHeartbeats 4000000 in
set_option maxRecDepth 100000 in
theorem c_Mod_isSurname (l : Launch) {L : Ly} (hg : gd_ok L) {σ : Mm} {o : Nat} {p1 : Int32} (k_o_0 : ly_k L o = 11) {res : Int32} (hf0 : f_Mod_isSurname (ly_z L) σ o p1 = some res) : CtI l y_Mod_isSurname b_Mod_isSurname 2 (some .boolean) rm_Mod_isSurname L [.ref (ly_a L o), .int p1] σ res σ := by
  refine ct_z hg (by decide) (Nat.le_of_ble_eq_true rfl) ?_
  intro E A Q hE C hN
  subst hE
  have k_o_2 : ly_k L (o + 2) = 20 := gd_Mod_s hg k_o_0
  unfold f_Mod_isSurname at hf0
  show GW E L A 2 0 0 Q σ 0 [(0, .ref (ly_a L o)), (1, .int p1)] []
  refine gw_iload_n C 1 d_Mod_isSurname_0 rfl rfl ?_
  refine gw_iconst C (0 : Int32) d_Mod_isSurname_1 (by decide) ?_
  refine gw_aload_n C 0 d_Mod_isSurname_2 rfl rfl ?_
  refine gw_getA C 6 d_Mod_isSurname_3 k_o_0 (by decide) i_Mod rfl rfl (by decide) qw_1171 rfl rfl (o + 2) rfl ?_
  refine gw_iconst C (0 : Int32) d_Mod_isSurname_6 (by decide) ?_
  obtain ⟨x7, hx7, hf0⟩ := mx_bd hf0
  obtain ⟨gx7, ex7⟩ := mx_ldI hx7
  refine gw_iald C d_Mod_isSurname_7 k_o_2 gx7 ex7 ?_
  refine gw_iconst C (1 : Int32) d_Mod_isSurname_8 (by decide) ?_
  refine gw_isub C d_Mod_isSurname_9 ?_
  obtain ⟨q10, hq10, hf0⟩ := mx_bd hf0
  refine gw_callIS C (c_Mod_isIn _ hg hq10) d_Mod_isSurname_10 3 qw_1356 qw_1357 qw_12 qw_1358 hd_Mod_isIn rfl rfl (Nat.le_of_ble_eq_true rfl) ⟨rfl, rfl, Nat.le_of_ble_eq_true rfl, Nat.le_of_ble_eq_true rfl⟩ ⟨Nat.zero_le _, Nat.zero_le _⟩ ?_
  obtain ⟨y13, hy13, hf0⟩ := mx_bd hf0
  obtain ⟨zy13, ey13⟩ := mx_zb hy13
  refine gw_topi ey13 ?_
  exact en_zp hN zy13 hf0 d_Mod_isSurname_13

/-! NameHatModel.isHouse(I)Z -/
abbrev b_Mod_isHouse : ByteArray := prog_14_method_33_code
def y_Mod_isHouse : MethodName := ⟨"NameHatModel", "isHouse", "(I)Z"⟩
abbrev rm_Mod_isHouse : Room := { frames := 1, cells := 0, slots := 0, locals := 22 }
theorem hd_Mod_isHouse : y_Mod_isHouse.cls ≠ "java/lang/invoke/MethodHandle" ∧ y_Mod_isHouse.cls ≠ "java/lang/invoke/VarHandle" ∧ (parseMethodDescriptor y_Mod_isHouse.desc).map (fun d => d.parameters.length) = some 1 := by decide +kernel
theorem d_Mod_isHouse_0 : decode b_Mod_isHouse 0 = .ok (.iload_n 1, 1) := by decide +kernel
theorem d_Mod_isHouse_1 : decode b_Mod_isHouse 1 = .ok (.iconst 0, 1) := by decide +kernel
theorem d_Mod_isHouse_2 : decode b_Mod_isHouse 2 = .ok (.aload_n 0, 1) := by decide +kernel
theorem d_Mod_isHouse_3 : decode b_Mod_isHouse 3 = .ok (.getfield 33, 3) := by decide +kernel
theorem d_Mod_isHouse_6 : decode b_Mod_isHouse 6 = .ok (.iconst 1, 1) := by decide +kernel
theorem d_Mod_isHouse_7 : decode b_Mod_isHouse 7 = .ok (.iaload, 1) := by decide +kernel
theorem d_Mod_isHouse_8 : decode b_Mod_isHouse 8 = .ok (.iconst 1, 1) := by decide +kernel
theorem d_Mod_isHouse_9 : decode b_Mod_isHouse 9 = .ok (.isub, 1) := by decide +kernel
theorem d_Mod_isHouse_10 : decode b_Mod_isHouse 10 = .ok (.invokestatic 175, 3) := by decide +kernel
theorem d_Mod_isHouse_13 : decode b_Mod_isHouse 13 = .ok (.ireturn, 1) := by decide +kernel
noncomputable def f_Mod_isHouse (z : Nat → Nat) (σ : Mm) (o : Nat) (p1 : Int32) : Option (Int32) :=
  (mm_ldI (σ.1 (o + 2)) (z (o + 2)) (1 : Int32)).bind fun x7 =>
  (f_Mod_isIn z σ p1 (0 : Int32) (x7 - (1 : Int32))).bind fun q10 =>
  (mm_zb q10).bind fun y13 =>
  some y13
set_option maxHeartbeats 4000000 in
set_option maxRecDepth 100000 in
theorem c_Mod_isHouse (l : Launch) {L : Ly} (hg : gd_ok L) {σ : Mm} {o : Nat} {p1 : Int32} (k_o_0 : ly_k L o = 11) {res : Int32} (hf0 : f_Mod_isHouse (ly_z L) σ o p1 = some res) : CtI l y_Mod_isHouse b_Mod_isHouse 2 (some .boolean) rm_Mod_isHouse L [.ref (ly_a L o), .int p1] σ res σ := by
  refine ct_z hg (by decide) (Nat.le_of_ble_eq_true rfl) ?_
  intro E A Q hE C hN
  subst hE
  have k_o_2 : ly_k L (o + 2) = 20 := gd_Mod_s hg k_o_0
  unfold f_Mod_isHouse at hf0
  show GW E L A 2 0 0 Q σ 0 [(0, .ref (ly_a L o)), (1, .int p1)] []
  refine gw_iload_n C 1 d_Mod_isHouse_0 rfl rfl ?_
  refine gw_iconst C (0 : Int32) d_Mod_isHouse_1 (by decide) ?_
  refine gw_aload_n C 0 d_Mod_isHouse_2 rfl rfl ?_
  refine gw_getA C 6 d_Mod_isHouse_3 k_o_0 (by decide) i_Mod rfl rfl (by decide) qw_1171 rfl rfl (o + 2) rfl ?_
  refine gw_iconst C (1 : Int32) d_Mod_isHouse_6 (by decide) ?_
  obtain ⟨x7, hx7, hf0⟩ := mx_bd hf0
  obtain ⟨gx7, ex7⟩ := mx_ldI hx7
  refine gw_iald C d_Mod_isHouse_7 k_o_2 gx7 ex7 ?_
  refine gw_iconst C (1 : Int32) d_Mod_isHouse_8 (by decide) ?_
  refine gw_isub C d_Mod_isHouse_9 ?_
  obtain ⟨q10, hq10, hf0⟩ := mx_bd hf0
  refine gw_callIS C (c_Mod_isIn _ hg hq10) d_Mod_isHouse_10 3 qw_1356 qw_1357 qw_12 qw_1358 hd_Mod_isIn rfl rfl (Nat.le_of_ble_eq_true rfl) ⟨rfl, rfl, Nat.le_of_ble_eq_true rfl, Nat.le_of_ble_eq_true rfl⟩ ⟨Nat.zero_le _, Nat.zero_le _⟩ ?_
  obtain ⟨y13, hy13, hf0⟩ := mx_bd hf0
  obtain ⟨zy13, ey13⟩ := mx_zb hy13
  refine gw_topi ey13 ?_
  exact en_zp hN zy13 hf0 d_Mod_isHouse_13

/-! NameHatModel.holderOf(I)I -/
abbrev b_Mod_holderOf : ByteArray := prog_14_method_34_code
def y_Mod_holderOf : MethodName := ⟨"NameHatModel", "holderOf", "(I)I"⟩
abbrev rm_Mod_holderOf : Room := { frames := 0, cells := 0, slots := 0, locals := 0 }
theorem hd_Mod_holderOf : y_Mod_holderOf.cls ≠ "java/lang/invoke/MethodHandle" ∧ y_Mod_holderOf.cls ≠ "java/lang/invoke/VarHandle" ∧ (parseMethodDescriptor y_Mod_holderOf.desc).map (fun d => d.parameters.length) = some 1 := by decide +kernel
theorem d_Mod_holderOf_0 : decode b_Mod_holderOf 0 = .ok (.iconst 0, 1) := by decide +kernel
theorem d_Mod_holderOf_1 : decode b_Mod_holderOf 1 = .ok (.istore_n 2, 1) := by decide +kernel
theorem d_Mod_holderOf_2 : decode b_Mod_holderOf 2 = .ok (.iload_n 2, 1) := by decide +kernel
theorem d_Mod_holderOf_3 : decode b_Mod_holderOf 3 = .ok (.aload_n 0, 1) := by decide +kernel
theorem d_Mod_holderOf_4 : decode b_Mod_holderOf 4 = .ok (.getfield 33, 3) := by decide +kernel
theorem d_Mod_holderOf_7 : decode b_Mod_holderOf 7 = .ok (.iconst 1, 1) := by decide +kernel
theorem d_Mod_holderOf_8 : decode b_Mod_holderOf 8 = .ok (.iaload, 1) := by decide +kernel
theorem d_Mod_holderOf_9 : decode b_Mod_holderOf 9 = .ok (.if_icmp .ge 24, 3) := by decide +kernel
theorem d_Mod_holderOf_12 : decode b_Mod_holderOf 12 = .ok (.aload_n 0, 1) := by decide +kernel
theorem d_Mod_holderOf_13 : decode b_Mod_holderOf 13 = .ok (.getfield 33, 3) := by decide +kernel
theorem d_Mod_holderOf_16 : decode b_Mod_holderOf 16 = .ok (.bipush 123, 2) := by decide +kernel
theorem d_Mod_holderOf_18 : decode b_Mod_holderOf 18 = .ok (.iload_n 2, 1) := by decide +kernel
theorem d_Mod_holderOf_19 : decode b_Mod_holderOf 19 = .ok (.iadd, 1) := by decide +kernel
theorem d_Mod_holderOf_20 : decode b_Mod_holderOf 20 = .ok (.iaload, 1) := by decide +kernel
theorem d_Mod_holderOf_21 : decode b_Mod_holderOf 21 = .ok (.iload_n 1, 1) := by decide +kernel
theorem d_Mod_holderOf_22 : decode b_Mod_holderOf 22 = .ok (.if_icmp .ne 5, 3) := by decide +kernel
theorem d_Mod_holderOf_25 : decode b_Mod_holderOf 25 = .ok (.iload_n 2, 1) := by decide +kernel
theorem d_Mod_holderOf_26 : decode b_Mod_holderOf 26 = .ok (.ireturn, 1) := by decide +kernel
theorem d_Mod_holderOf_27 : decode b_Mod_holderOf 27 = .ok (.iinc 2 1, 3) := by decide +kernel
theorem d_Mod_holderOf_30 : decode b_Mod_holderOf 30 = .ok (.goto (-28), 3) := by decide +kernel
theorem d_Mod_holderOf_33 : decode b_Mod_holderOf 33 = .ok (.iconst (-1), 1) := by decide +kernel
theorem d_Mod_holderOf_34 : decode b_Mod_holderOf 34 = .ok (.ireturn, 1) := by decide +kernel
noncomputable def f_Mod_holderOf_L2 (z : Nat → Nat) (σ : Mm) (o : Nat) (v1 : Int32) (s2 : Int32) : Option ((Int32) ⊕ ((Int32) ⊕ (Unit))) :=
  (mm_ldI (σ.1 (o + 2)) (z (o + 2)) (1 : Int32)).bind fun x8 =>
  if x8 ≤ s2 then (
    some (.inr (.inr ()))
  ) else (
    (mm_ldI (σ.1 (o + 2)) (z (o + 2)) ((123 : Int32) + s2)).bind fun x20 =>
    if x20 = v1 then (
      some (.inr (.inl s2))
    ) else (
      mm_lt (s2 + (1 : Int32)) fun x27 =>
      some (.inl x27)
    )
  )
noncomputable def f_Mod_holderOf (z : Nat → Nat) (σ : Mm) (o : Nat) (p1 : Int32) : Option (Int32) :=
  (mm_lp (f_Mod_holderOf_L2 z σ o p1) (0 : Int32)).bind (Sum.elim (fun r9 => some r9) (fun x2_ =>
    some ((-1) : Int32)))
set_option maxHeartbeats 4000000 in
set_option maxRecDepth 100000 in
theorem c_Mod_holderOf (l : Launch) {L : Ly} (hg : gd_ok L) {σ : Mm} {o : Nat} {p1 : Int32} (k_o_0 : ly_k L o = 11) {res : Int32} (hf0 : f_Mod_holderOf (ly_z L) σ o p1 = some res) : CtI l y_Mod_holderOf b_Mod_holderOf 3 (some .int) rm_Mod_holderOf L [.ref (ly_a L o), .int p1] σ res σ := by
  refine ct_i hg (by decide) (Nat.le_of_ble_eq_true rfl) ?_
  intro E A Q hE C hN
  subst hE
  have k_o_2 : ly_k L (o + 2) = 20 := gd_Mod_s hg k_o_0
  unfold f_Mod_holderOf at hf0
  show GW E L A 3 0 0 Q σ 0 [(0, .ref (ly_a L o)), (1, .int p1)] []
  refine gw_iconst C (0 : Int32) d_Mod_holderOf_0 (by decide) ?_
  refine gw_istore_n C [(2, .int (0 : Int32)), (0, .ref (ly_a L o)), (1, .int p1)] d_Mod_holderOf_1 rfl (by decide) rfl ?_
  obtain ⟨q2, hq2, hf0⟩ := mx_bd hf0
  have hk2 : ∀ x2_, q2 = .inr x2_ → GW E L A 3 0 0 Q σ 33 [] [] := by
    intro x2_ hx9
    subst hx9
    replace hf0 := mx_sr hf0
    refine gw_iconst C ((-1) : Int32) d_Mod_holderOf_33 (by decide) ?_
    exact en_ip hN hf0 d_Mod_holderOf_34
  refine gw_sub [1, 2, 0] (lv' := [(0, .ref (ly_a L o)), (1, .int p1), (2, .int (0 : Int32))]) rfl ?_
  refine mm_rule hq2 (P := fun (s2 : Int32) => GW E L A 3 0 0 Q σ 2 [(0, .ref (ly_a L o)), (1, .int p1), (2, .int s2)] []) ?_
  intro s2 ih2 hx2 ⟨w2, hb2⟩
  have hf1 := hb2
  unfold f_Mod_holderOf_L2 at hf1
  refine gw_iload_n C 2 d_Mod_holderOf_2 rfl rfl ?_
  refine gw_aload_n C 0 d_Mod_holderOf_3 rfl rfl ?_
  refine gw_getA C 6 d_Mod_holderOf_4 k_o_0 (by decide) i_Mod rfl rfl (by decide) qw_1171 rfl rfl (o + 2) rfl ?_
  refine gw_iconst C (1 : Int32) d_Mod_holderOf_7 (by decide) ?_
  obtain ⟨x8, hx8, hf1⟩ := mx_bd hf1
  obtain ⟨gx8, ex8⟩ := mx_ldI hx8
  refine gw_iald C d_Mod_holderOf_8 k_o_2 gx8 ex8 ?_
  refine gw_icmp_ge C 33 d_Mod_holderOf_9 (by decide) (fun hc => ?_) (fun hc => ?_)
  · replace hf1 := mx_t hc hf1
    exact gw_go [] (hk2 () (hx2 _ (hb2.trans hf1.symm)).symm) rfl
  · replace hf1 := mx_f hc hf1
    refine gw_aload_n C 0 d_Mod_holderOf_12 rfl rfl ?_
    refine gw_getA C 6 d_Mod_holderOf_13 k_o_0 (by decide) i_Mod rfl rfl (by decide) qw_1171 rfl rfl (o + 2) rfl ?_
    refine gw_bipush C (123 : Int32) d_Mod_holderOf_16 (by decide) ?_
    refine gw_iload_n C 2 d_Mod_holderOf_18 rfl rfl ?_
    refine gw_iadd C d_Mod_holderOf_19 ?_
    obtain ⟨x20, hx20, hf1⟩ := mx_bd hf1
    obtain ⟨gx20, ex20⟩ := mx_ldI hx20
    refine gw_iald C d_Mod_holderOf_20 k_o_2 gx20 ex20 ?_
    refine gw_iload_n C 1 d_Mod_holderOf_21 rfl rfl ?_
    refine gw_icmp_ne C 27 d_Mod_holderOf_22 (by decide) (fun hc => ?_) (fun hc => ?_)
    · replace hf1 := mx_f hc hf1
      obtain ⟨x27, ex27, hf1⟩ := mx_lt hf1
      refine gw_iinc C 2 [(2, .int x27), (0, .ref (ly_a L o)), (1, .int p1)] d_Mod_holderOf_27 rfl (by rw [ex27]; rfl) (by decide) rfl ?_
      refine gw_goto C 2 d_Mod_holderOf_30 (by decide) ?_
      exact gw_go [1, 2, 0] (ih2 x27 (hb2.trans hf1.symm)) rfl
    · replace hf1 := mx_t hc hf1
      refine gw_iload_n C 2 d_Mod_holderOf_25 rfl rfl ?_
      have hr2 := hx2 _ (hb2.trans hf1.symm)
      subst hr2
      replace hf0 := mx_sl hf0
      exact en_ip hN hf0 d_Mod_holderOf_26

/-! NameHatModel.valueOf(II)I -/
abbrev b_Mod_valueOf : ByteArray := prog_14_method_35_code
def y_Mod_valueOf : MethodName := ⟨"NameHatModel", "valueOf", "(II)I"⟩
abbrev rm_Mod_valueOf : Room := { frames := 0, cells := 0, slots := 0, locals := 0 }
theorem hd_Mod_valueOf : y_Mod_valueOf.cls ≠ "java/lang/invoke/MethodHandle" ∧ y_Mod_valueOf.cls ≠ "java/lang/invoke/VarHandle" ∧ (parseMethodDescriptor y_Mod_valueOf.desc).map (fun d => d.parameters.length) = some 2 := by decide +kernel
theorem d_Mod_valueOf_0 : decode b_Mod_valueOf 0 = .ok (.iload_n 2, 1) := by decide +kernel
theorem d_Mod_valueOf_1 : decode b_Mod_valueOf 1 = .ok (.ifCond .ge 5, 3) := by decide +kernel
theorem d_Mod_valueOf_4 : decode b_Mod_valueOf 4 = .ok (.iconst 0, 1) := by decide +kernel
theorem d_Mod_valueOf_5 : decode b_Mod_valueOf 5 = .ok (.ireturn, 1) := by decide +kernel
theorem d_Mod_valueOf_6 : decode b_Mod_valueOf 6 = .ok (.aload_n 0, 1) := by decide +kernel
theorem d_Mod_valueOf_7 : decode b_Mod_valueOf 7 = .ok (.getfield 33, 3) := by decide +kernel
theorem d_Mod_valueOf_10 : decode b_Mod_valueOf 10 = .ok (.bipush 35, 2) := by decide +kernel
theorem d_Mod_valueOf_12 : decode b_Mod_valueOf 12 = .ok (.bipush 10, 2) := by decide +kernel
theorem d_Mod_valueOf_14 : decode b_Mod_valueOf 14 = .ok (.iload_n 1, 1) := by decide +kernel
theorem d_Mod_valueOf_15 : decode b_Mod_valueOf 15 = .ok (.imul, 1) := by decide +kernel
theorem d_Mod_valueOf_16 : decode b_Mod_valueOf 16 = .ok (.iadd, 1) := by decide +kernel
theorem d_Mod_valueOf_17 : decode b_Mod_valueOf 17 = .ok (.iload_n 2, 1) := by decide +kernel
theorem d_Mod_valueOf_18 : decode b_Mod_valueOf 18 = .ok (.iadd, 1) := by decide +kernel
theorem d_Mod_valueOf_19 : decode b_Mod_valueOf 19 = .ok (.iaload, 1) := by decide +kernel
theorem d_Mod_valueOf_20 : decode b_Mod_valueOf 20 = .ok (.ifCond .le 22, 3) := by decide +kernel
theorem d_Mod_valueOf_23 : decode b_Mod_valueOf 23 = .ok (.aload_n 0, 1) := by decide +kernel
theorem d_Mod_valueOf_24 : decode b_Mod_valueOf 24 = .ok (.getfield 33, 3) := by decide +kernel
theorem d_Mod_valueOf_27 : decode b_Mod_valueOf 27 = .ok (.bipush 35, 2) := by decide +kernel
theorem d_Mod_valueOf_29 : decode b_Mod_valueOf 29 = .ok (.bipush 10, 2) := by decide +kernel
theorem d_Mod_valueOf_31 : decode b_Mod_valueOf 31 = .ok (.iload_n 1, 1) := by decide +kernel
theorem d_Mod_valueOf_32 : decode b_Mod_valueOf 32 = .ok (.imul, 1) := by decide +kernel
theorem d_Mod_valueOf_33 : decode b_Mod_valueOf 33 = .ok (.iadd, 1) := by decide +kernel
theorem d_Mod_valueOf_34 : decode b_Mod_valueOf 34 = .ok (.iload_n 2, 1) := by decide +kernel
theorem d_Mod_valueOf_35 : decode b_Mod_valueOf 35 = .ok (.iadd, 1) := by decide +kernel
theorem d_Mod_valueOf_36 : decode b_Mod_valueOf 36 = .ok (.iaload, 1) := by decide +kernel
theorem d_Mod_valueOf_37 : decode b_Mod_valueOf 37 = .ok (.iconst 1, 1) := by decide +kernel
theorem d_Mod_valueOf_38 : decode b_Mod_valueOf 38 = .ok (.isub, 1) := by decide +kernel
theorem d_Mod_valueOf_39 : decode b_Mod_valueOf 39 = .ok (.goto 11, 3) := by decide +kernel
theorem d_Mod_valueOf_42 : decode b_Mod_valueOf 42 = .ok (.aload_n 0, 1) := by decide +kernel
theorem d_Mod_valueOf_43 : decode b_Mod_valueOf 43 = .ok (.getfield 33, 3) := by decide +kernel
theorem d_Mod_valueOf_46 : decode b_Mod_valueOf 46 = .ok (.iconst 5, 1) := by decide +kernel
theorem d_Mod_valueOf_47 : decode b_Mod_valueOf 47 = .ok (.iload_n 2, 1) := by decide +kernel
theorem d_Mod_valueOf_48 : decode b_Mod_valueOf 48 = .ok (.iadd, 1) := by decide +kernel
theorem d_Mod_valueOf_49 : decode b_Mod_valueOf 49 = .ok (.iaload, 1) := by decide +kernel
theorem d_Mod_valueOf_50 : decode b_Mod_valueOf 50 = .ok (.istore_n 3, 1) := by decide +kernel
theorem d_Mod_valueOf_51 : decode b_Mod_valueOf 51 = .ok (.aload_n 0, 1) := by decide +kernel
theorem d_Mod_valueOf_52 : decode b_Mod_valueOf 52 = .ok (.getfield 33, 3) := by decide +kernel
theorem d_Mod_valueOf_55 : decode b_Mod_valueOf 55 = .ok (.bipush 15, 2) := by decide +kernel
theorem d_Mod_valueOf_57 : decode b_Mod_valueOf 57 = .ok (.iload_n 2, 1) := by decide +kernel
theorem d_Mod_valueOf_58 : decode b_Mod_valueOf 58 = .ok (.iadd, 1) := by decide +kernel
theorem d_Mod_valueOf_59 : decode b_Mod_valueOf 59 = .ok (.iaload, 1) := by decide +kernel
theorem d_Mod_valueOf_60 : decode b_Mod_valueOf 60 = .ok (.iconst 1, 1) := by decide +kernel
theorem d_Mod_valueOf_61 : decode b_Mod_valueOf 61 = .ok (.if_icmp .ne 14, 3) := by decide +kernel
theorem d_Mod_valueOf_64 : decode b_Mod_valueOf 64 = .ok (.aload_n 0, 1) := by decide +kernel
theorem d_Mod_valueOf_65 : decode b_Mod_valueOf 65 = .ok (.getfield 33, 3) := by decide +kernel
theorem d_Mod_valueOf_68 : decode b_Mod_valueOf 68 = .ok (.iconst 4, 1) := by decide +kernel
theorem d_Mod_valueOf_69 : decode b_Mod_valueOf 69 = .ok (.iaload, 1) := by decide +kernel
theorem d_Mod_valueOf_70 : decode b_Mod_valueOf 70 = .ok (.iload_n 3, 1) := by decide +kernel
theorem d_Mod_valueOf_71 : decode b_Mod_valueOf 71 = .ok (.isub, 1) := by decide +kernel
theorem d_Mod_valueOf_72 : decode b_Mod_valueOf 72 = .ok (.goto 4, 3) := by decide +kernel
theorem d_Mod_valueOf_75 : decode b_Mod_valueOf 75 = .ok (.iload_n 3, 1) := by decide +kernel
theorem d_Mod_valueOf_76 : decode b_Mod_valueOf 76 = .ok (.ireturn, 1) := by decide +kernel
noncomputable def f_Mod_valueOf_J50 (z : Nat → Nat) (σ : Mm) (o : Nat) (v2 : Int32) (t50_0 : Int32) : Option (Int32) :=
  (mm_ldI (σ.1 (o + 2)) (z (o + 2)) ((15 : Int32) + v2)).bind fun x59 =>
  if x59 = (1 : Int32) then (
    (mm_ldI (σ.1 (o + 2)) (z (o + 2)) (4 : Int32)).bind fun x69 =>
    some (x69 - t50_0)
  ) else (
    some t50_0
  )
noncomputable def f_Mod_valueOf (z : Nat → Nat) (σ : Mm) (o : Nat) (p1 : Int32) (p2 : Int32) : Option (Int32) :=
  if 0 ≤ p2 then (
    (mm_ldI (σ.1 (o + 2)) (z (o + 2)) (((35 : Int32) + ((10 : Int32) * p1)) + p2)).bind fun x19 =>
    if x19 ≤ 0 then (
      (mm_ldI (σ.1 (o + 2)) (z (o + 2)) ((5 : Int32) + p2)).bind fun x49 =>
      f_Mod_valueOf_J50 z σ o p2 x49
    ) else (
      (mm_ldI (σ.1 (o + 2)) (z (o + 2)) (((35 : Int32) + ((10 : Int32) * p1)) + p2)).bind fun x36 =>
      f_Mod_valueOf_J50 z σ o p2 (x36 - (1 : Int32))
    )
  ) else (
    some (0 : Int32)
  )
set_option maxHeartbeats 4000000 in
set_option maxRecDepth 100000 in
theorem c_Mod_valueOf (l : Launch) {L : Ly} (hg : gd_ok L) {σ : Mm} {o : Nat} {p1 : Int32} {p2 : Int32} (k_o_0 : ly_k L o = 11) {res : Int32} (hf0 : f_Mod_valueOf (ly_z L) σ o p1 p2 = some res) : CtI l y_Mod_valueOf b_Mod_valueOf 4 (some .int) rm_Mod_valueOf L [.ref (ly_a L o), .int p1, .int p2] σ res σ := by
  refine ct_i hg (by decide) (Nat.le_of_ble_eq_true rfl) ?_
  intro E A Q hE C hN
  subst hE
  have k_o_2 : ly_k L (o + 2) = 20 := gd_Mod_s hg k_o_0
  unfold f_Mod_valueOf at hf0
  show GW E L A 4 0 0 Q σ 0 [(0, .ref (ly_a L o)), (1, .int p1), (2, .int p2)] []
  have hj50 : ∀ (v2 : Int32) (t50_0 : Int32), f_Mod_valueOf_J50 (ly_z L) σ o v2 t50_0 = some res → GW E L A 4 0 0 Q σ 50 [(0, .ref (ly_a L o)), (2, .int v2)] [.int t50_0] := by
    intro v2 t50_0 hf0
    unfold f_Mod_valueOf_J50 at hf0
    refine gw_istore_n C [(3, .int t50_0), (0, .ref (ly_a L o)), (2, .int v2)] d_Mod_valueOf_50 rfl (by decide) rfl ?_
    refine gw_aload_n C 1 d_Mod_valueOf_51 rfl rfl ?_
    refine gw_getA C 6 d_Mod_valueOf_52 k_o_0 (by decide) i_Mod rfl rfl (by decide) qw_1171 rfl rfl (o + 2) rfl ?_
    refine gw_bipush C (15 : Int32) d_Mod_valueOf_55 (by decide) ?_
    refine gw_iload_n C 2 d_Mod_valueOf_57 rfl rfl ?_
    refine gw_iadd C d_Mod_valueOf_58 ?_
    obtain ⟨x59, hx59, hf0⟩ := mx_bd hf0
    obtain ⟨gx59, ex59⟩ := mx_ldI hx59
    refine gw_iald C d_Mod_valueOf_59 k_o_2 gx59 ex59 ?_
    refine gw_iconst C (1 : Int32) d_Mod_valueOf_60 (by decide) ?_
    refine gw_icmp_ne C 75 d_Mod_valueOf_61 (by decide) (fun hc => ?_) (fun hc => ?_)
    · replace hf0 := mx_f hc hf0
      refine gw_iload_n C 0 d_Mod_valueOf_75 rfl rfl ?_
      exact en_ip hN hf0 d_Mod_valueOf_76
    · replace hf0 := mx_t hc hf0
      refine gw_aload_n C 1 d_Mod_valueOf_64 rfl rfl ?_
      refine gw_getA C 6 d_Mod_valueOf_65 k_o_0 (by decide) i_Mod rfl rfl (by decide) qw_1171 rfl rfl (o + 2) rfl ?_
      refine gw_iconst C (4 : Int32) d_Mod_valueOf_68 (by decide) ?_
      obtain ⟨x69, hx69, hf0⟩ := mx_bd hf0
      obtain ⟨gx69, ex69⟩ := mx_ldI hx69
      refine gw_iald C d_Mod_valueOf_69 k_o_2 gx69 ex69 ?_
      refine gw_iload_n C 0 d_Mod_valueOf_70 rfl rfl ?_
      refine gw_isub C d_Mod_valueOf_71 ?_
      refine gw_goto C 76 d_Mod_valueOf_72 (by decide) ?_
      exact en_ip hN hf0 d_Mod_valueOf_76
  refine gw_iload_n C 2 d_Mod_valueOf_0 rfl rfl ?_
  refine gw_if_ge C 6 d_Mod_valueOf_1 (by decide) (fun hc => ?_) (fun hc => ?_)
  · replace hf0 := mx_t hc hf0
    refine gw_aload_n C 0 d_Mod_valueOf_6 rfl rfl ?_
    refine gw_getA C 6 d_Mod_valueOf_7 k_o_0 (by decide) i_Mod rfl rfl (by decide) qw_1171 rfl rfl (o + 2) rfl ?_
    refine gw_bipush C (35 : Int32) d_Mod_valueOf_10 (by decide) ?_
    refine gw_bipush C (10 : Int32) d_Mod_valueOf_12 (by decide) ?_
    refine gw_iload_n C 1 d_Mod_valueOf_14 rfl rfl ?_
    refine gw_imul C d_Mod_valueOf_15 ?_
    refine gw_iadd C d_Mod_valueOf_16 ?_
    refine gw_iload_n C 2 d_Mod_valueOf_17 rfl rfl ?_
    refine gw_iadd C d_Mod_valueOf_18 ?_
    obtain ⟨x19, hx19, hf0⟩ := mx_bd hf0
    obtain ⟨gx19, ex19⟩ := mx_ldI hx19
    refine gw_iald C d_Mod_valueOf_19 k_o_2 gx19 ex19 ?_
    refine gw_if_le C 42 d_Mod_valueOf_20 (by decide) (fun hc => ?_) (fun hc => ?_)
    · replace hf0 := mx_t hc hf0
      refine gw_aload_n C 0 d_Mod_valueOf_42 rfl rfl ?_
      refine gw_getA C 6 d_Mod_valueOf_43 k_o_0 (by decide) i_Mod rfl rfl (by decide) qw_1171 rfl rfl (o + 2) rfl ?_
      refine gw_iconst C (5 : Int32) d_Mod_valueOf_46 (by decide) ?_
      refine gw_iload_n C 2 d_Mod_valueOf_47 rfl rfl ?_
      refine gw_iadd C d_Mod_valueOf_48 ?_
      obtain ⟨x49, hx49, hf0⟩ := mx_bd hf0
      obtain ⟨gx49, ex49⟩ := mx_ldI hx49
      refine gw_iald C d_Mod_valueOf_49 k_o_2 gx49 ex49 ?_
      exact gw_go [0, 2] (hj50 _ _ hf0) rfl
    · replace hf0 := mx_f hc hf0
      refine gw_aload_n C 0 d_Mod_valueOf_23 rfl rfl ?_
      refine gw_getA C 6 d_Mod_valueOf_24 k_o_0 (by decide) i_Mod rfl rfl (by decide) qw_1171 rfl rfl (o + 2) rfl ?_
      refine gw_bipush C (35 : Int32) d_Mod_valueOf_27 (by decide) ?_
      refine gw_bipush C (10 : Int32) d_Mod_valueOf_29 (by decide) ?_
      refine gw_iload_n C 1 d_Mod_valueOf_31 rfl rfl ?_
      refine gw_imul C d_Mod_valueOf_32 ?_
      refine gw_iadd C d_Mod_valueOf_33 ?_
      refine gw_iload_n C 2 d_Mod_valueOf_34 rfl rfl ?_
      refine gw_iadd C d_Mod_valueOf_35 ?_
      obtain ⟨x36, hx36, hf0⟩ := mx_bd hf0
      obtain ⟨gx36, ex36⟩ := mx_ldI hx36
      refine gw_iald C d_Mod_valueOf_36 k_o_2 gx36 ex36 ?_
      refine gw_iconst C (1 : Int32) d_Mod_valueOf_37 (by decide) ?_
      refine gw_isub C d_Mod_valueOf_38 ?_
      refine gw_goto C 50 d_Mod_valueOf_39 (by decide) ?_
      exact gw_go [0, 2] (hj50 _ _ hf0) rfl
  · replace hf0 := mx_f hc hf0
    refine gw_iconst C (0 : Int32) d_Mod_valueOf_4 (by decide) ?_
    exact en_ip hN hf0 d_Mod_valueOf_5

/-! NameHatModel.surname(II)I -/
abbrev b_Mod_surname : ByteArray := prog_14_method_36_code
def y_Mod_surname : MethodName := ⟨"NameHatModel", "surname", "(II)I"⟩
abbrev rm_Mod_surname : Room := { frames := 2, cells := 0, slots := 0, locals := 43 }
theorem hd_Mod_surname : y_Mod_surname.cls ≠ "java/lang/invoke/MethodHandle" ∧ y_Mod_surname.cls ≠ "java/lang/invoke/VarHandle" ∧ (parseMethodDescriptor y_Mod_surname.desc).map (fun d => d.parameters.length) = some 2 := by decide +kernel
theorem d_Mod_surname_0 : decode b_Mod_surname 0 = .ok (.aload_n 0, 1) := by decide +kernel
theorem d_Mod_surname_1 : decode b_Mod_surname 1 = .ok (.aload_n 0, 1) := by decide +kernel
theorem d_Mod_surname_2 : decode b_Mod_surname 2 = .ok (.iload_n 1, 1) := by decide +kernel
theorem d_Mod_surname_3 : decode b_Mod_surname 3 = .ok (.invokevirtual 241, 3) := by decide +kernel
theorem d_Mod_surname_6 : decode b_Mod_surname 6 = .ok (.ifCond .eq 12, 3) := by decide +kernel
theorem d_Mod_surname_9 : decode b_Mod_surname 9 = .ok (.iload_n 2, 1) := by decide +kernel
theorem d_Mod_surname_10 : decode b_Mod_surname 10 = .ok (.iconst 0, 1) := by decide +kernel
theorem d_Mod_surname_11 : decode b_Mod_surname 11 = .ok (.iconst 3, 1) := by decide +kernel
theorem d_Mod_surname_12 : decode b_Mod_surname 12 = .ok (.invokestatic 175, 3) := by decide +kernel
theorem d_Mod_surname_15 : decode b_Mod_surname 15 = .ok (.ifCond .ne 7, 3) := by decide +kernel
theorem d_Mod_surname_18 : decode b_Mod_surname 18 = .ok (.iconst 1, 1) := by decide +kernel
theorem d_Mod_surname_19 : decode b_Mod_surname 19 = .ok (.goto 4, 3) := by decide +kernel
theorem d_Mod_surname_22 : decode b_Mod_surname 22 = .ok (.iconst 0, 1) := by decide +kernel
theorem d_Mod_surname_23 : decode b_Mod_surname 23 = .ok (.invokevirtual 244, 3) := by decide +kernel
theorem d_Mod_surname_26 : decode b_Mod_surname 26 = .ok (.ifCond .eq 5, 3) := by decide +kernel
theorem d_Mod_surname_29 : decode b_Mod_surname 29 = .ok (.iconst 0, 1) := by decide +kernel
theorem d_Mod_surname_30 : decode b_Mod_surname 30 = .ok (.ireturn, 1) := by decide +kernel
theorem d_Mod_surname_31 : decode b_Mod_surname 31 = .ok (.iload_n 2, 1) := by decide +kernel
theorem d_Mod_surname_32 : decode b_Mod_surname 32 = .ok (.ifCond .ne 14, 3) := by decide +kernel
theorem d_Mod_surname_35 : decode b_Mod_surname 35 = .ok (.aload_n 0, 1) := by decide +kernel
theorem d_Mod_surname_36 : decode b_Mod_surname 36 = .ok (.getfield 33, 3) := by decide +kernel
theorem d_Mod_surname_39 : decode b_Mod_surname 39 = .ok (.iconst 5, 1) := by decide +kernel
theorem d_Mod_surname_40 : decode b_Mod_surname 40 = .ok (.iload_n 1, 1) := by decide +kernel
theorem d_Mod_surname_41 : decode b_Mod_surname 41 = .ok (.iadd, 1) := by decide +kernel
theorem d_Mod_surname_42 : decode b_Mod_surname 42 = .ok (.iaload, 1) := by decide +kernel
theorem d_Mod_surname_43 : decode b_Mod_surname 43 = .ok (.goto 42, 3) := by decide +kernel
theorem d_Mod_surname_46 : decode b_Mod_surname 46 = .ok (.iload_n 2, 1) := by decide +kernel
theorem d_Mod_surname_47 : decode b_Mod_surname 47 = .ok (.iconst 1, 1) := by decide +kernel
theorem d_Mod_surname_48 : decode b_Mod_surname 48 = .ok (.if_icmp .ne 15, 3) := by decide +kernel
theorem d_Mod_surname_51 : decode b_Mod_surname 51 = .ok (.aload_n 0, 1) := by decide +kernel
theorem d_Mod_surname_52 : decode b_Mod_surname 52 = .ok (.getfield 33, 3) := by decide +kernel
theorem d_Mod_surname_55 : decode b_Mod_surname 55 = .ok (.bipush 15, 2) := by decide +kernel
theorem d_Mod_surname_57 : decode b_Mod_surname 57 = .ok (.iload_n 1, 1) := by decide +kernel
theorem d_Mod_surname_58 : decode b_Mod_surname 58 = .ok (.iadd, 1) := by decide +kernel
theorem d_Mod_surname_59 : decode b_Mod_surname 59 = .ok (.iaload, 1) := by decide +kernel
theorem d_Mod_surname_60 : decode b_Mod_surname 60 = .ok (.goto 25, 3) := by decide +kernel
theorem d_Mod_surname_63 : decode b_Mod_surname 63 = .ok (.iload_n 2, 1) := by decide +kernel
theorem d_Mod_surname_64 : decode b_Mod_surname 64 = .ok (.iconst 2, 1) := by decide +kernel
theorem d_Mod_surname_65 : decode b_Mod_surname 65 = .ok (.if_icmp .ne 11, 3) := by decide +kernel
theorem d_Mod_surname_68 : decode b_Mod_surname 68 = .ok (.aload_n 0, 1) := by decide +kernel
theorem d_Mod_surname_69 : decode b_Mod_surname 69 = .ok (.iload_n 1, 1) := by decide +kernel
theorem d_Mod_surname_70 : decode b_Mod_surname 70 = .ok (.invokevirtual 248, 3) := by decide +kernel
theorem d_Mod_surname_73 : decode b_Mod_surname 73 = .ok (.goto 12, 3) := by decide +kernel
theorem d_Mod_surname_76 : decode b_Mod_surname 76 = .ok (.aload_n 0, 1) := by decide +kernel
theorem d_Mod_surname_77 : decode b_Mod_surname 77 = .ok (.getfield 33, 3) := by decide +kernel
theorem d_Mod_surname_80 : decode b_Mod_surname 80 = .ok (.bipush 25, 2) := by decide +kernel
theorem d_Mod_surname_82 : decode b_Mod_surname 82 = .ok (.iload_n 1, 1) := by decide +kernel
theorem d_Mod_surname_83 : decode b_Mod_surname 83 = .ok (.iadd, 1) := by decide +kernel
theorem d_Mod_surname_84 : decode b_Mod_surname 84 = .ok (.iaload, 1) := by decide +kernel
theorem d_Mod_surname_85 : decode b_Mod_surname 85 = .ok (.ireturn, 1) := by decide +kernel
noncomputable def f_Mod_surname_J23 (z : Nat → Nat) (o : Nat) (v1 : Int32) (v2 : Int32) (t23_1 : Int32) (m23 : Mm) : Option (Int32 × Mm) :=
  (f_Mod_throwsIf z m23 o t23_1).bind fun q23 =>
  if q23.1 = 0 then (
    if v2 = 0 then (
      (mm_ldI (q23.2.1 (o + 2)) (z (o + 2)) ((5 : Int32) + v1)).bind fun x42 =>
      some (x42, q23.2)
    ) else (
      if v2 = (1 : Int32) then (
        (mm_ldI (q23.2.1 (o + 2)) (z (o + 2)) ((15 : Int32) + v1)).bind fun x59 =>
        some (x59, q23.2)
      ) else (
        if v2 = (2 : Int32) then (
          (f_Mod_holderOf z q23.2 o v1).bind fun q70 =>
          some (q70, q23.2)
        ) else (
          (mm_ldI (q23.2.1 (o + 2)) (z (o + 2)) ((25 : Int32) + v1)).bind fun x84 =>
          some (x84, q23.2)
        )
      )
    )
  ) else (
    some ((0 : Int32), q23.2)
  )
noncomputable def f_Mod_surname (z : Nat → Nat) (σ : Mm) (o : Nat) (p1 : Int32) (p2 : Int32) : Option (Int32 × Mm) :=
  (f_Mod_isSurname z σ o p1).bind fun q3 =>
  if q3 = 0 then (
    f_Mod_surname_J23 z o p1 p2 (1 : Int32) σ
  ) else (
    (f_Mod_isIn z σ p2 (0 : Int32) (3 : Int32)).bind fun q12 =>
    if q12 = 0 then (
      f_Mod_surname_J23 z o p1 p2 (1 : Int32) σ
    ) else (
      f_Mod_surname_J23 z o p1 p2 (0 : Int32) σ
    )
  )
set_option maxHeartbeats 4000000 in
set_option maxRecDepth 100000 in
theorem c_Mod_surname (l : Launch) {L : Ly} (hg : gd_ok L) {σ : Mm} {o : Nat} {p1 : Int32} {p2 : Int32} (k_o_0 : ly_k L o = 11) {res : Int32 × Mm} (hf0 : f_Mod_surname (ly_z L) σ o p1 p2 = some res) : CtI l y_Mod_surname b_Mod_surname 3 (some .int) rm_Mod_surname L [.ref (ly_a L o), .int p1, .int p2] σ res.1 res.2 := by
  refine ct_i hg (by decide) (Nat.le_of_ble_eq_true rfl) ?_
  intro E A Q hE C hN
  subst hE
  have k_o_2 : ly_k L (o + 2) = 20 := gd_Mod_s hg k_o_0
  unfold f_Mod_surname at hf0
  show GW E L A 3 0 0 Q σ 0 [(0, .ref (ly_a L o)), (1, .int p1), (2, .int p2)] []
  have hj23 : ∀ (v1 : Int32) (v2 : Int32) (t23_1 : Int32) (m23 : Mm), f_Mod_surname_J23 (ly_z L) o v1 v2 t23_1 m23 = some res → GW E L A 3 0 0 Q m23 23 [(0, .ref (ly_a L o)), (1, .int v1), (2, .int v2)] [.int t23_1, .ref (ly_a L o)] := by
    intro v1 v2 t23_1 m23 hf0
    unfold f_Mod_surname_J23 at hf0
    obtain ⟨q23, hq23, hf0⟩ := mx_bd hf0
    refine gw_callI C (c_Mod_throwsIf _ hg k_o_0 hq23) d_Mod_surname_23 1 qw_1398 qw_1400 qs_55 qw_12 qw_1401 k_o_0 (by decide) rfl hd_Mod_throwsIf rfl rfl (Nat.le_of_ble_eq_true rfl) ⟨rfl, rfl, Nat.le_of_ble_eq_true rfl, Nat.le_of_ble_eq_true rfl⟩ ⟨Nat.zero_le _, Nat.zero_le _⟩ ?_
    refine gw_if_eq C 31 d_Mod_surname_26 (by decide) (fun hc => ?_) (fun hc => ?_)
    · replace hf0 := mx_t hc hf0
      refine gw_iload_n C 2 d_Mod_surname_31 rfl rfl ?_
      refine gw_if_ne C 46 d_Mod_surname_32 (by decide) (fun hc => ?_) (fun hc => ?_)
      · replace hf0 := mx_f hc hf0
        refine gw_iload_n C 2 d_Mod_surname_46 rfl rfl ?_
        refine gw_iconst C (1 : Int32) d_Mod_surname_47 (by decide) ?_
        refine gw_icmp_ne C 63 d_Mod_surname_48 (by decide) (fun hc => ?_) (fun hc => ?_)
        · replace hf0 := mx_f hc hf0
          refine gw_iload_n C 2 d_Mod_surname_63 rfl rfl ?_
          refine gw_iconst C (2 : Int32) d_Mod_surname_64 (by decide) ?_
          refine gw_icmp_ne C 76 d_Mod_surname_65 (by decide) (fun hc => ?_) (fun hc => ?_)
          · replace hf0 := mx_f hc hf0
            refine gw_aload_n C 0 d_Mod_surname_76 rfl rfl ?_
            refine gw_getA C 6 d_Mod_surname_77 k_o_0 (by decide) i_Mod rfl rfl (by decide) qw_1171 rfl rfl (o + 2) rfl ?_
            refine gw_bipush C (25 : Int32) d_Mod_surname_80 (by decide) ?_
            refine gw_iload_n C 1 d_Mod_surname_82 rfl rfl ?_
            refine gw_iadd C d_Mod_surname_83 ?_
            obtain ⟨x84, hx84, hf0⟩ := mx_bd hf0
            obtain ⟨gx84, ex84⟩ := mx_ldI hx84
            refine gw_iald C d_Mod_surname_84 k_o_2 gx84 ex84 ?_
            exact en_i hN hf0 d_Mod_surname_85
          · replace hf0 := mx_t hc hf0
            refine gw_aload_n C 0 d_Mod_surname_68 rfl rfl ?_
            refine gw_iload_n C 1 d_Mod_surname_69 rfl rfl ?_
            obtain ⟨q70, hq70, hf0⟩ := mx_bd hf0
            refine gw_callI C (c_Mod_holderOf _ hg k_o_0 hq70) d_Mod_surname_70 1 qw_1402 qw_1404 qs_56 qw_12 qw_1405 k_o_0 (by decide) rfl hd_Mod_holderOf rfl rfl (Nat.le_of_ble_eq_true rfl) ⟨rfl, rfl, Nat.le_of_ble_eq_true rfl, Nat.le_of_ble_eq_true rfl⟩ ⟨Nat.zero_le _, Nat.zero_le _⟩ ?_
            refine gw_goto C 85 d_Mod_surname_73 (by decide) ?_
            exact en_i hN hf0 d_Mod_surname_85
        · replace hf0 := mx_t hc hf0
          refine gw_aload_n C 0 d_Mod_surname_51 rfl rfl ?_
          refine gw_getA C 6 d_Mod_surname_52 k_o_0 (by decide) i_Mod rfl rfl (by decide) qw_1171 rfl rfl (o + 2) rfl ?_
          refine gw_bipush C (15 : Int32) d_Mod_surname_55 (by decide) ?_
          refine gw_iload_n C 1 d_Mod_surname_57 rfl rfl ?_
          refine gw_iadd C d_Mod_surname_58 ?_
          obtain ⟨x59, hx59, hf0⟩ := mx_bd hf0
          obtain ⟨gx59, ex59⟩ := mx_ldI hx59
          refine gw_iald C d_Mod_surname_59 k_o_2 gx59 ex59 ?_
          refine gw_goto C 85 d_Mod_surname_60 (by decide) ?_
          exact en_i hN hf0 d_Mod_surname_85
      · replace hf0 := mx_t hc hf0
        refine gw_aload_n C 0 d_Mod_surname_35 rfl rfl ?_
        refine gw_getA C 6 d_Mod_surname_36 k_o_0 (by decide) i_Mod rfl rfl (by decide) qw_1171 rfl rfl (o + 2) rfl ?_
        refine gw_iconst C (5 : Int32) d_Mod_surname_39 (by decide) ?_
        refine gw_iload_n C 1 d_Mod_surname_40 rfl rfl ?_
        refine gw_iadd C d_Mod_surname_41 ?_
        obtain ⟨x42, hx42, hf0⟩ := mx_bd hf0
        obtain ⟨gx42, ex42⟩ := mx_ldI hx42
        refine gw_iald C d_Mod_surname_42 k_o_2 gx42 ex42 ?_
        refine gw_goto C 85 d_Mod_surname_43 (by decide) ?_
        exact en_i hN hf0 d_Mod_surname_85
    · replace hf0 := mx_f hc hf0
      refine gw_iconst C (0 : Int32) d_Mod_surname_29 (by decide) ?_
      exact en_i hN hf0 d_Mod_surname_30
  refine gw_aload_n C 0 d_Mod_surname_0 rfl rfl ?_
  refine gw_aload_n C 0 d_Mod_surname_1 rfl rfl ?_
  refine gw_iload_n C 1 d_Mod_surname_2 rfl rfl ?_
  obtain ⟨q3, hq3, hf0⟩ := mx_bd hf0
  refine gw_callI C (c_Mod_isSurname _ hg k_o_0 hq3) d_Mod_surname_3 1 qw_1394 qw_1396 qs_54 qw_12 qw_1397 k_o_0 (by decide) rfl hd_Mod_isSurname rfl rfl (Nat.le_of_ble_eq_true rfl) ⟨rfl, rfl, Nat.le_of_ble_eq_true rfl, Nat.le_of_ble_eq_true rfl⟩ ⟨Nat.zero_le _, Nat.zero_le _⟩ ?_
  refine gw_if_eq C 18 d_Mod_surname_6 (by decide) (fun hc => ?_) (fun hc => ?_)
  · replace hf0 := mx_t hc hf0
    refine gw_iconst C (1 : Int32) d_Mod_surname_18 (by decide) ?_
    refine gw_goto C 23 d_Mod_surname_19 (by decide) ?_
    exact gw_go [0, 1, 2] (hj23 _ _ _ _ hf0) rfl
  · replace hf0 := mx_f hc hf0
    refine gw_iload_n C 2 d_Mod_surname_9 rfl rfl ?_
    refine gw_iconst C (0 : Int32) d_Mod_surname_10 (by decide) ?_
    refine gw_iconst C (3 : Int32) d_Mod_surname_11 (by decide) ?_
    obtain ⟨q12, hq12, hf0⟩ := mx_bd hf0
    refine gw_callIS C (c_Mod_isIn _ hg hq12) d_Mod_surname_12 3 qw_1356 qw_1357 qw_12 qw_1358 hd_Mod_isIn rfl rfl (Nat.le_of_ble_eq_true rfl) ⟨rfl, rfl, Nat.le_of_ble_eq_true rfl, Nat.le_of_ble_eq_true rfl⟩ ⟨Nat.zero_le _, Nat.zero_le _⟩ ?_
    refine gw_if_ne C 22 d_Mod_surname_15 (by decide) (fun hc => ?_) (fun hc => ?_)
    · replace hf0 := mx_f hc hf0
      refine gw_iconst C (0 : Int32) d_Mod_surname_22 (by decide) ?_
      exact gw_go [0, 1, 2] (hj23 _ _ _ _ hf0) rfl
    · replace hf0 := mx_t hc hf0
      refine gw_iconst C (1 : Int32) d_Mod_surname_18 (by decide) ?_
      refine gw_goto C 23 d_Mod_surname_19 (by decide) ?_
      exact gw_go [0, 1, 2] (hj23 _ _ _ _ hf0) rfl

/-! NameHatModel.house(II)I -/
abbrev b_Mod_house : ByteArray := prog_14_method_37_code
def y_Mod_house : MethodName := ⟨"NameHatModel", "house", "(II)I"⟩
abbrev rm_Mod_house : Room := { frames := 2, cells := 0, slots := 0, locals := 43 }
theorem hd_Mod_house : y_Mod_house.cls ≠ "java/lang/invoke/MethodHandle" ∧ y_Mod_house.cls ≠ "java/lang/invoke/VarHandle" ∧ (parseMethodDescriptor y_Mod_house.desc).map (fun d => d.parameters.length) = some 2 := by decide +kernel
theorem d_Mod_house_0 : decode b_Mod_house 0 = .ok (.aload_n 0, 1) := by decide +kernel
theorem d_Mod_house_1 : decode b_Mod_house 1 = .ok (.aload_n 0, 1) := by decide +kernel
theorem d_Mod_house_2 : decode b_Mod_house 2 = .ok (.iload_n 1, 1) := by decide +kernel
theorem d_Mod_house_3 : decode b_Mod_house 3 = .ok (.invokevirtual 252, 3) := by decide +kernel
theorem d_Mod_house_6 : decode b_Mod_house 6 = .ok (.ifCond .eq 12, 3) := by decide +kernel
theorem d_Mod_house_9 : decode b_Mod_house 9 = .ok (.iload_n 2, 1) := by decide +kernel
theorem d_Mod_house_10 : decode b_Mod_house 10 = .ok (.iconst 0, 1) := by decide +kernel
theorem d_Mod_house_11 : decode b_Mod_house 11 = .ok (.iconst 1, 1) := by decide +kernel
theorem d_Mod_house_12 : decode b_Mod_house 12 = .ok (.invokestatic 175, 3) := by decide +kernel
theorem d_Mod_house_15 : decode b_Mod_house 15 = .ok (.ifCond .ne 7, 3) := by decide +kernel
theorem d_Mod_house_18 : decode b_Mod_house 18 = .ok (.iconst 1, 1) := by decide +kernel
theorem d_Mod_house_19 : decode b_Mod_house 19 = .ok (.goto 4, 3) := by decide +kernel
theorem d_Mod_house_22 : decode b_Mod_house 22 = .ok (.iconst 0, 1) := by decide +kernel
theorem d_Mod_house_23 : decode b_Mod_house 23 = .ok (.invokevirtual 244, 3) := by decide +kernel
theorem d_Mod_house_26 : decode b_Mod_house 26 = .ok (.ifCond .eq 7, 3) := by decide +kernel
theorem d_Mod_house_29 : decode b_Mod_house 29 = .ok (.iconst 0, 1) := by decide +kernel
theorem d_Mod_house_30 : decode b_Mod_house 30 = .ok (.goto 21, 3) := by decide +kernel
theorem d_Mod_house_33 : decode b_Mod_house 33 = .ok (.aload_n 0, 1) := by decide +kernel
theorem d_Mod_house_34 : decode b_Mod_house 34 = .ok (.getfield 33, 3) := by decide +kernel
theorem d_Mod_house_37 : decode b_Mod_house 37 = .ok (.iload_n 2, 1) := by decide +kernel
theorem d_Mod_house_38 : decode b_Mod_house 38 = .ok (.ifCond .ne 8, 3) := by decide +kernel
theorem d_Mod_house_41 : decode b_Mod_house 41 = .ok (.bipush 123, 2) := by decide +kernel
theorem d_Mod_house_43 : decode b_Mod_house 43 = .ok (.goto 5, 3) := by decide +kernel
theorem d_Mod_house_46 : decode b_Mod_house 46 = .ok (.bipush 115, 2) := by decide +kernel
theorem d_Mod_house_48 : decode b_Mod_house 48 = .ok (.iload_n 1, 1) := by decide +kernel
theorem d_Mod_house_49 : decode b_Mod_house 49 = .ok (.iadd, 1) := by decide +kernel
theorem d_Mod_house_50 : decode b_Mod_house 50 = .ok (.iaload, 1) := by decide +kernel
theorem d_Mod_house_51 : decode b_Mod_house 51 = .ok (.ireturn, 1) := by decide +kernel
noncomputable def f_Mod_house_J23 (z : Nat → Nat) (o : Nat) (v1 : Int32) (v2 : Int32) (t23_1 : Int32) (m23 : Mm) : Option (Int32 × Mm) :=
  (f_Mod_throwsIf z m23 o t23_1).bind fun q23 =>
  if q23.1 = 0 then (
    if v2 = 0 then (
      (mm_ldI (q23.2.1 (o + 2)) (z (o + 2)) ((123 : Int32) + v1)).bind fun x50 =>
      some (x50, q23.2)
    ) else (
      (mm_ldI (q23.2.1 (o + 2)) (z (o + 2)) ((115 : Int32) + v1)).bind fun x50 =>
      some (x50, q23.2)
    )
  ) else (
    some ((0 : Int32), q23.2)
  )
noncomputable def f_Mod_house (z : Nat → Nat) (σ : Mm) (o : Nat) (p1 : Int32) (p2 : Int32) : Option (Int32 × Mm) :=
  (f_Mod_isHouse z σ o p1).bind fun q3 =>
  if q3 = 0 then (
    f_Mod_house_J23 z o p1 p2 (1 : Int32) σ
  ) else (
    (f_Mod_isIn z σ p2 (0 : Int32) (1 : Int32)).bind fun q12 =>
    if q12 = 0 then (
      f_Mod_house_J23 z o p1 p2 (1 : Int32) σ
    ) else (
      f_Mod_house_J23 z o p1 p2 (0 : Int32) σ
    )
  )
set_option maxHeartbeats 4000000 in
set_option maxRecDepth 100000 in
theorem c_Mod_house (l : Launch) {L : Ly} (hg : gd_ok L) {σ : Mm} {o : Nat} {p1 : Int32} {p2 : Int32} (k_o_0 : ly_k L o = 11) {res : Int32 × Mm} (hf0 : f_Mod_house (ly_z L) σ o p1 p2 = some res) : CtI l y_Mod_house b_Mod_house 3 (some .int) rm_Mod_house L [.ref (ly_a L o), .int p1, .int p2] σ res.1 res.2 := by
  refine ct_i hg (by decide) (Nat.le_of_ble_eq_true rfl) ?_
  intro E A Q hE C hN
  subst hE
  have k_o_2 : ly_k L (o + 2) = 20 := gd_Mod_s hg k_o_0
  unfold f_Mod_house at hf0
  show GW E L A 3 0 0 Q σ 0 [(0, .ref (ly_a L o)), (1, .int p1), (2, .int p2)] []
  have hj23 : ∀ (v1 : Int32) (v2 : Int32) (t23_1 : Int32) (m23 : Mm), f_Mod_house_J23 (ly_z L) o v1 v2 t23_1 m23 = some res → GW E L A 3 0 0 Q m23 23 [(0, .ref (ly_a L o)), (1, .int v1), (2, .int v2)] [.int t23_1, .ref (ly_a L o)] := by
    intro v1 v2 t23_1 m23 hf0
    unfold f_Mod_house_J23 at hf0
    obtain ⟨q23, hq23, hf0⟩ := mx_bd hf0
    refine gw_callI C (c_Mod_throwsIf _ hg k_o_0 hq23) d_Mod_house_23 1 qw_1398 qw_1400 qs_55 qw_12 qw_1401 k_o_0 (by decide) rfl hd_Mod_throwsIf rfl rfl (Nat.le_of_ble_eq_true rfl) ⟨rfl, rfl, Nat.le_of_ble_eq_true rfl, Nat.le_of_ble_eq_true rfl⟩ ⟨Nat.zero_le _, Nat.zero_le _⟩ ?_
    refine gw_if_eq C 33 d_Mod_house_26 (by decide) (fun hc => ?_) (fun hc => ?_)
    · replace hf0 := mx_t hc hf0
      refine gw_aload_n C 0 d_Mod_house_33 rfl rfl ?_
      refine gw_getA C 6 d_Mod_house_34 k_o_0 (by decide) i_Mod rfl rfl (by decide) qw_1171 rfl rfl (o + 2) rfl ?_
      refine gw_iload_n C 2 d_Mod_house_37 rfl rfl ?_
      refine gw_if_ne C 46 d_Mod_house_38 (by decide) (fun hc => ?_) (fun hc => ?_)
      · replace hf0 := mx_f hc hf0
        refine gw_bipush C (115 : Int32) d_Mod_house_46 (by decide) ?_
        refine gw_iload_n C 1 d_Mod_house_48 rfl rfl ?_
        refine gw_iadd C d_Mod_house_49 ?_
        obtain ⟨x50, hx50, hf0⟩ := mx_bd hf0
        obtain ⟨gx50, ex50⟩ := mx_ldI hx50
        refine gw_iald C d_Mod_house_50 k_o_2 gx50 ex50 ?_
        exact en_i hN hf0 d_Mod_house_51
      · replace hf0 := mx_t hc hf0
        refine gw_bipush C (123 : Int32) d_Mod_house_41 (by decide) ?_
        refine gw_goto C 48 d_Mod_house_43 (by decide) ?_
        refine gw_iload_n C 1 d_Mod_house_48 rfl rfl ?_
        refine gw_iadd C d_Mod_house_49 ?_
        obtain ⟨x50, hx50, hf0⟩ := mx_bd hf0
        obtain ⟨gx50, ex50⟩ := mx_ldI hx50
        refine gw_iald C d_Mod_house_50 k_o_2 gx50 ex50 ?_
        exact en_i hN hf0 d_Mod_house_51
    · replace hf0 := mx_f hc hf0
      refine gw_iconst C (0 : Int32) d_Mod_house_29 (by decide) ?_
      refine gw_goto C 51 d_Mod_house_30 (by decide) ?_
      exact en_i hN hf0 d_Mod_house_51
  refine gw_aload_n C 0 d_Mod_house_0 rfl rfl ?_
  refine gw_aload_n C 0 d_Mod_house_1 rfl rfl ?_
  refine gw_iload_n C 1 d_Mod_house_2 rfl rfl ?_
  obtain ⟨q3, hq3, hf0⟩ := mx_bd hf0
  refine gw_callI C (c_Mod_isHouse _ hg k_o_0 hq3) d_Mod_house_3 1 qw_1410 qw_1412 qs_57 qw_12 qw_1413 k_o_0 (by decide) rfl hd_Mod_isHouse rfl rfl (Nat.le_of_ble_eq_true rfl) ⟨rfl, rfl, Nat.le_of_ble_eq_true rfl, Nat.le_of_ble_eq_true rfl⟩ ⟨Nat.zero_le _, Nat.zero_le _⟩ ?_
  refine gw_if_eq C 18 d_Mod_house_6 (by decide) (fun hc => ?_) (fun hc => ?_)
  · replace hf0 := mx_t hc hf0
    refine gw_iconst C (1 : Int32) d_Mod_house_18 (by decide) ?_
    refine gw_goto C 23 d_Mod_house_19 (by decide) ?_
    exact gw_go [0, 1, 2] (hj23 _ _ _ _ hf0) rfl
  · replace hf0 := mx_f hc hf0
    refine gw_iload_n C 2 d_Mod_house_9 rfl rfl ?_
    refine gw_iconst C (0 : Int32) d_Mod_house_10 (by decide) ?_
    refine gw_iconst C (1 : Int32) d_Mod_house_11 (by decide) ?_
    obtain ⟨q12, hq12, hf0⟩ := mx_bd hf0
    refine gw_callIS C (c_Mod_isIn _ hg hq12) d_Mod_house_12 3 qw_1356 qw_1357 qw_12 qw_1358 hd_Mod_isIn rfl rfl (Nat.le_of_ble_eq_true rfl) ⟨rfl, rfl, Nat.le_of_ble_eq_true rfl, Nat.le_of_ble_eq_true rfl⟩ ⟨Nat.zero_le _, Nat.zero_le _⟩ ?_
    refine gw_if_ne C 22 d_Mod_house_15 (by decide) (fun hc => ?_) (fun hc => ?_)
    · replace hf0 := mx_f hc hf0
      refine gw_iconst C (0 : Int32) d_Mod_house_22 (by decide) ?_
      exact gw_go [0, 1, 2] (hj23 _ _ _ _ hf0) rfl
    · replace hf0 := mx_t hc hf0
      refine gw_iconst C (1 : Int32) d_Mod_house_18 (by decide) ?_
      refine gw_goto C 23 d_Mod_house_19 (by decide) ?_
      exact gw_go [0, 1, 2] (hj23 _ _ _ _ hf0) rfl

/-! NameHatModel.value(II)I -/
abbrev b_Mod_value : ByteArray := prog_14_method_38_code
def y_Mod_value : MethodName := ⟨"NameHatModel", "value", "(II)I"⟩
abbrev rm_Mod_value : Room := { frames := 2, cells := 0, slots := 0, locals := 43 }
theorem hd_Mod_value : y_Mod_value.cls ≠ "java/lang/invoke/MethodHandle" ∧ y_Mod_value.cls ≠ "java/lang/invoke/VarHandle" ∧ (parseMethodDescriptor y_Mod_value.desc).map (fun d => d.parameters.length) = some 2 := by decide +kernel
theorem d_Mod_value_0 : decode b_Mod_value 0 = .ok (.aload_n 0, 1) := by decide +kernel
theorem d_Mod_value_1 : decode b_Mod_value 1 = .ok (.aload_n 0, 1) := by decide +kernel
theorem d_Mod_value_2 : decode b_Mod_value 2 = .ok (.iload_n 1, 1) := by decide +kernel
theorem d_Mod_value_3 : decode b_Mod_value 3 = .ok (.invokevirtual 252, 3) := by decide +kernel
theorem d_Mod_value_6 : decode b_Mod_value 6 = .ok (.ifCond .eq 11, 3) := by decide +kernel
theorem d_Mod_value_9 : decode b_Mod_value 9 = .ok (.aload_n 0, 1) := by decide +kernel
theorem d_Mod_value_10 : decode b_Mod_value 10 = .ok (.iload_n 2, 1) := by decide +kernel
theorem d_Mod_value_11 : decode b_Mod_value 11 = .ok (.invokevirtual 241, 3) := by decide +kernel
theorem d_Mod_value_14 : decode b_Mod_value 14 = .ok (.ifCond .ne 7, 3) := by decide +kernel
theorem d_Mod_value_17 : decode b_Mod_value 17 = .ok (.iconst 1, 1) := by decide +kernel
theorem d_Mod_value_18 : decode b_Mod_value 18 = .ok (.goto 4, 3) := by decide +kernel
theorem d_Mod_value_21 : decode b_Mod_value 21 = .ok (.iconst 0, 1) := by decide +kernel
theorem d_Mod_value_22 : decode b_Mod_value 22 = .ok (.invokevirtual 244, 3) := by decide +kernel
theorem d_Mod_value_25 : decode b_Mod_value 25 = .ok (.ifCond .eq 7, 3) := by decide +kernel
theorem d_Mod_value_28 : decode b_Mod_value 28 = .ok (.iconst 0, 1) := by decide +kernel
theorem d_Mod_value_29 : decode b_Mod_value 29 = .ok (.goto 9, 3) := by decide +kernel
theorem d_Mod_value_32 : decode b_Mod_value 32 = .ok (.aload_n 0, 1) := by decide +kernel
theorem d_Mod_value_33 : decode b_Mod_value 33 = .ok (.iload_n 1, 1) := by decide +kernel
theorem d_Mod_value_34 : decode b_Mod_value 34 = .ok (.iload_n 2, 1) := by decide +kernel
theorem d_Mod_value_35 : decode b_Mod_value 35 = .ok (.invokevirtual 255, 3) := by decide +kernel
theorem d_Mod_value_38 : decode b_Mod_value 38 = .ok (.ireturn, 1) := by decide +kernel
noncomputable def f_Mod_value_J22 (z : Nat → Nat) (o : Nat) (v1 : Int32) (v2 : Int32) (t22_1 : Int32) (m22 : Mm) : Option (Int32 × Mm) :=
  (f_Mod_throwsIf z m22 o t22_1).bind fun q22 =>
  if q22.1 = 0 then (
    (f_Mod_valueOf z q22.2 o v1 v2).bind fun q35 =>
    some (q35, q22.2)
  ) else (
    some ((0 : Int32), q22.2)
  )
noncomputable def f_Mod_value (z : Nat → Nat) (σ : Mm) (o : Nat) (p1 : Int32) (p2 : Int32) : Option (Int32 × Mm) :=
  (f_Mod_isHouse z σ o p1).bind fun q3 =>
  if q3 = 0 then (
    f_Mod_value_J22 z o p1 p2 (1 : Int32) σ
  ) else (
    (f_Mod_isSurname z σ o p2).bind fun q11 =>
    if q11 = 0 then (
      f_Mod_value_J22 z o p1 p2 (1 : Int32) σ
    ) else (
      f_Mod_value_J22 z o p1 p2 (0 : Int32) σ
    )
  )
set_option maxHeartbeats 4000000 in
set_option maxRecDepth 100000 in
theorem c_Mod_value (l : Launch) {L : Ly} (hg : gd_ok L) {σ : Mm} {o : Nat} {p1 : Int32} {p2 : Int32} (k_o_0 : ly_k L o = 11) {res : Int32 × Mm} (hf0 : f_Mod_value (ly_z L) σ o p1 p2 = some res) : CtI l y_Mod_value b_Mod_value 3 (some .int) rm_Mod_value L [.ref (ly_a L o), .int p1, .int p2] σ res.1 res.2 := by
  refine ct_i hg (by decide) (Nat.le_of_ble_eq_true rfl) ?_
  intro E A Q hE C hN
  subst hE
  unfold f_Mod_value at hf0
  show GW E L A 3 0 0 Q σ 0 [(0, .ref (ly_a L o)), (1, .int p1), (2, .int p2)] []
  have hj22 : ∀ (v1 : Int32) (v2 : Int32) (t22_1 : Int32) (m22 : Mm), f_Mod_value_J22 (ly_z L) o v1 v2 t22_1 m22 = some res → GW E L A 3 0 0 Q m22 22 [(0, .ref (ly_a L o)), (1, .int v1), (2, .int v2)] [.int t22_1, .ref (ly_a L o)] := by
    intro v1 v2 t22_1 m22 hf0
    unfold f_Mod_value_J22 at hf0
    obtain ⟨q22, hq22, hf0⟩ := mx_bd hf0
    refine gw_callI C (c_Mod_throwsIf _ hg k_o_0 hq22) d_Mod_value_22 1 qw_1398 qw_1400 qs_55 qw_12 qw_1401 k_o_0 (by decide) rfl hd_Mod_throwsIf rfl rfl (Nat.le_of_ble_eq_true rfl) ⟨rfl, rfl, Nat.le_of_ble_eq_true rfl, Nat.le_of_ble_eq_true rfl⟩ ⟨Nat.zero_le _, Nat.zero_le _⟩ ?_
    refine gw_if_eq C 32 d_Mod_value_25 (by decide) (fun hc => ?_) (fun hc => ?_)
    · replace hf0 := mx_t hc hf0
      refine gw_aload_n C 0 d_Mod_value_32 rfl rfl ?_
      refine gw_iload_n C 1 d_Mod_value_33 rfl rfl ?_
      refine gw_iload_n C 2 d_Mod_value_34 rfl rfl ?_
      obtain ⟨q35, hq35, hf0⟩ := mx_bd hf0
      refine gw_callI C (c_Mod_valueOf _ hg k_o_0 hq35) d_Mod_value_35 2 qw_1418 qw_1420 qs_58 qw_12 qw_1421 k_o_0 (by decide) rfl hd_Mod_valueOf rfl rfl (Nat.le_of_ble_eq_true rfl) ⟨rfl, rfl, Nat.le_of_ble_eq_true rfl, Nat.le_of_ble_eq_true rfl⟩ ⟨Nat.zero_le _, Nat.zero_le _⟩ ?_
      exact en_i hN hf0 d_Mod_value_38
    · replace hf0 := mx_f hc hf0
      refine gw_iconst C (0 : Int32) d_Mod_value_28 (by decide) ?_
      refine gw_goto C 38 d_Mod_value_29 (by decide) ?_
      exact en_i hN hf0 d_Mod_value_38
  refine gw_aload_n C 0 d_Mod_value_0 rfl rfl ?_
  refine gw_aload_n C 0 d_Mod_value_1 rfl rfl ?_
  refine gw_iload_n C 1 d_Mod_value_2 rfl rfl ?_
  obtain ⟨q3, hq3, hf0⟩ := mx_bd hf0
  refine gw_callI C (c_Mod_isHouse _ hg k_o_0 hq3) d_Mod_value_3 1 qw_1410 qw_1412 qs_57 qw_12 qw_1413 k_o_0 (by decide) rfl hd_Mod_isHouse rfl rfl (Nat.le_of_ble_eq_true rfl) ⟨rfl, rfl, Nat.le_of_ble_eq_true rfl, Nat.le_of_ble_eq_true rfl⟩ ⟨Nat.zero_le _, Nat.zero_le _⟩ ?_
  refine gw_if_eq C 17 d_Mod_value_6 (by decide) (fun hc => ?_) (fun hc => ?_)
  · replace hf0 := mx_t hc hf0
    refine gw_iconst C (1 : Int32) d_Mod_value_17 (by decide) ?_
    refine gw_goto C 22 d_Mod_value_18 (by decide) ?_
    exact gw_go [0, 1, 2] (hj22 _ _ _ _ hf0) rfl
  · replace hf0 := mx_f hc hf0
    refine gw_aload_n C 0 d_Mod_value_9 rfl rfl ?_
    refine gw_iload_n C 2 d_Mod_value_10 rfl rfl ?_
    obtain ⟨q11, hq11, hf0⟩ := mx_bd hf0
    refine gw_callI C (c_Mod_isSurname _ hg k_o_0 hq11) d_Mod_value_11 1 qw_1394 qw_1396 qs_54 qw_12 qw_1397 k_o_0 (by decide) rfl hd_Mod_isSurname rfl rfl (Nat.le_of_ble_eq_true rfl) ⟨rfl, rfl, Nat.le_of_ble_eq_true rfl, Nat.le_of_ble_eq_true rfl⟩ ⟨Nat.zero_le _, Nat.zero_le _⟩ ?_
    refine gw_if_ne C 21 d_Mod_value_14 (by decide) (fun hc => ?_) (fun hc => ?_)
    · replace hf0 := mx_f hc hf0
      refine gw_iconst C (0 : Int32) d_Mod_value_21 (by decide) ?_
      exact gw_go [0, 1, 2] (hj22 _ _ _ _ hf0) rfl
    · replace hf0 := mx_t hc hf0
      refine gw_iconst C (1 : Int32) d_Mod_value_17 (by decide) ?_
      refine gw_goto C 22 d_Mod_value_18 (by decide) ?_
      exact gw_go [0, 1, 2] (hj22 _ _ _ _ hf0) rfl

/-! NameHatModel.draw(I)I -/
abbrev b_Mod_draw : ByteArray := prog_14_method_39_code
def y_Mod_draw : MethodName := ⟨"NameHatModel", "draw", "(I)I"⟩
abbrev rm_Mod_draw : Room := { frames := 0, cells := 0, slots := 0, locals := 0 }
theorem hd_Mod_draw : y_Mod_draw.cls ≠ "java/lang/invoke/MethodHandle" ∧ y_Mod_draw.cls ≠ "java/lang/invoke/VarHandle" ∧ (parseMethodDescriptor y_Mod_draw.desc).map (fun d => d.parameters.length) = some 1 := by decide +kernel
theorem d_Mod_draw_0 : decode b_Mod_draw 0 = .ok (.aload_n 0, 1) := by decide +kernel
theorem d_Mod_draw_1 : decode b_Mod_draw 1 = .ok (.aload_n 0, 1) := by decide +kernel
theorem d_Mod_draw_2 : decode b_Mod_draw 2 = .ok (.getfield 258, 3) := by decide +kernel
theorem d_Mod_draw_5 : decode b_Mod_draw 5 = .ok (.ldc_w 261, 3) := by decide +kernel
theorem d_Mod_draw_8 : decode b_Mod_draw 8 = .ok (.imul, 1) := by decide +kernel
theorem d_Mod_draw_9 : decode b_Mod_draw 9 = .ok (.sipush 12345, 3) := by decide +kernel
theorem d_Mod_draw_12 : decode b_Mod_draw 12 = .ok (.iadd, 1) := by decide +kernel
theorem d_Mod_draw_13 : decode b_Mod_draw 13 = .ok (.putfield 258, 3) := by decide +kernel
theorem d_Mod_draw_16 : decode b_Mod_draw 16 = .ok (.aload_n 0, 1) := by decide +kernel
theorem d_Mod_draw_17 : decode b_Mod_draw 17 = .ok (.getfield 258, 3) := by decide +kernel
theorem d_Mod_draw_20 : decode b_Mod_draw 20 = .ok (.bipush 8, 2) := by decide +kernel
theorem d_Mod_draw_22 : decode b_Mod_draw 22 = .ok (.iushr, 1) := by decide +kernel
theorem d_Mod_draw_23 : decode b_Mod_draw 23 = .ok (.iload_n 1, 1) := by decide +kernel
theorem d_Mod_draw_24 : decode b_Mod_draw 24 = .ok (.irem, 1) := by decide +kernel
theorem d_Mod_draw_25 : decode b_Mod_draw 25 = .ok (.ireturn, 1) := by decide +kernel
noncomputable def f_Mod_draw (z : Nat → Nat) (σ : Mm) (o : Nat) (p1 : Int32) : Option (Int32 × Mm) :=
  mm_lt (kI σ o 23 (((σ.1 o 23) * (1103515245 : Int32)) + (12345 : Int32))) fun m13 =>
  (mm_irem ((Int32.toUInt32 (m13.1 o 23) >>> (Int32.toUInt32 (8 : Int32) &&& Int32.toUInt32 31)).toInt32) p1).bind fun x24 =>
  some (x24, m13)
set_option maxHeartbeats 4000000 in
set_option maxRecDepth 100000 in
theorem c_Mod_draw (l : Launch) {L : Ly} (hg : gd_ok L) {σ : Mm} {o : Nat} {p1 : Int32} (k_o_0 : ly_k L o = 11) {res : Int32 × Mm} (hf0 : f_Mod_draw (ly_z L) σ o p1 = some res) : CtI l y_Mod_draw b_Mod_draw 2 (some .int) rm_Mod_draw L [.ref (ly_a L o), .int p1] σ res.1 res.2 := by
  refine ct_i hg (by decide) (Nat.le_of_ble_eq_true rfl) ?_
  intro E A Q hE C hN
  subst hE
  unfold f_Mod_draw at hf0
  show GW E L A 2 0 0 Q σ 0 [(0, .ref (ly_a L o)), (1, .int p1)] []
  refine gw_aload_n C 0 d_Mod_draw_0 rfl rfl ?_
  refine gw_aload_n C 0 d_Mod_draw_1 rfl rfl ?_
  refine gw_getI C 23 d_Mod_draw_2 k_o_0 (by decide) i_Mod rfl rfl (by decide) qw_1188 rfl rfl ?_
  refine gw_ldc_w C d_Mod_draw_5 qw_1433 ?_
  refine gw_imul C d_Mod_draw_8 ?_
  refine gw_sipush C (12345 : Int32) d_Mod_draw_9 (by decide) ?_
  refine gw_iadd C d_Mod_draw_12 ?_
  obtain ⟨m13, em13, hf0⟩ := mx_lt hf0
  refine gw_putI t_Mod C 23 d_Mod_draw_13 k_o_0 (by decide) i_Mod rfl rfl (by decide) qw_1188 rfl rfl t_Mod_ok n_Mod rfl (t_Mod_ok 23 (by decide)) rfl rfl em13 ?_
  refine gw_aload_n C 0 d_Mod_draw_16 rfl rfl ?_
  refine gw_getI C 23 d_Mod_draw_17 k_o_0 (by decide) i_Mod rfl rfl (by decide) qw_1188 rfl rfl ?_
  refine gw_bipush C (8 : Int32) d_Mod_draw_20 (by decide) ?_
  refine gw_iushr C d_Mod_draw_22 ?_
  refine gw_iload_n C 1 d_Mod_draw_23 rfl rfl ?_
  obtain ⟨x24, hx24, hf0⟩ := mx_bd hf0
  obtain ⟨nx24, ex24⟩ := mx_irem hx24
  refine gw_irem C d_Mod_draw_24 nx24 ?_
  refine gw_topi ex24 ?_
  exact en_i hN hf0 d_Mod_draw_25

/-! NameHatModel.spring(I)I -/
abbrev b_Mod_spring : ByteArray := prog_14_method_40_code
def y_Mod_spring : MethodName := ⟨"NameHatModel", "spring", "(I)I"⟩
abbrev rm_Mod_spring : Room := { frames := 1, cells := 0, slots := 0, locals := 22 }
theorem hd_Mod_spring : y_Mod_spring.cls ≠ "java/lang/invoke/MethodHandle" ∧ y_Mod_spring.cls ≠ "java/lang/invoke/VarHandle" ∧ (parseMethodDescriptor y_Mod_spring.desc).map (fun d => d.parameters.length) = some 1 := by decide +kernel
theorem d_Mod_spring_0 : decode b_Mod_spring 0 = .ok (.aload_n 0, 1) := by decide +kernel
theorem d_Mod_spring_1 : decode b_Mod_spring 1 = .ok (.iconst 0, 1) := by decide +kernel
theorem d_Mod_spring_2 : decode b_Mod_spring 2 = .ok (.putfield 1, 3) := by decide +kernel
theorem d_Mod_spring_5 : decode b_Mod_spring 5 = .ok (.aload_n 0, 1) := by decide +kernel
theorem d_Mod_spring_6 : decode b_Mod_spring 6 = .ok (.getfield 33, 3) := by decide +kernel
theorem d_Mod_spring_9 : decode b_Mod_spring 9 = .ok (.sipush 131, 3) := by decide +kernel
theorem d_Mod_spring_12 : decode b_Mod_spring 12 = .ok (.iaload, 1) := by decide +kernel
theorem d_Mod_spring_13 : decode b_Mod_spring 13 = .ok (.bipush 24, 2) := by decide +kernel
theorem d_Mod_spring_15 : decode b_Mod_spring 15 = .ok (.if_icmp .eq 12, 3) := by decide +kernel
theorem d_Mod_spring_18 : decode b_Mod_spring 18 = .ok (.aload_n 0, 1) := by decide +kernel
theorem d_Mod_spring_19 : decode b_Mod_spring 19 = .ok (.getfield 33, 3) := by decide +kernel
theorem d_Mod_spring_22 : decode b_Mod_spring 22 = .ok (.iconst 0, 1) := by decide +kernel
theorem d_Mod_spring_23 : decode b_Mod_spring 23 = .ok (.iaload, 1) := by decide +kernel
theorem d_Mod_spring_24 : decode b_Mod_spring 24 = .ok (.ifCond .ne 5, 3) := by decide +kernel
theorem d_Mod_spring_27 : decode b_Mod_spring 27 = .ok (.iconst (-1), 1) := by decide +kernel
theorem d_Mod_spring_28 : decode b_Mod_spring 28 = .ok (.ireturn, 1) := by decide +kernel
theorem d_Mod_spring_29 : decode b_Mod_spring 29 = .ok (.iconst 0, 1) := by decide +kernel
theorem d_Mod_spring_30 : decode b_Mod_spring 30 = .ok (.istore_n 2, 1) := by decide +kernel
theorem d_Mod_spring_31 : decode b_Mod_spring 31 = .ok (.iload_n 2, 1) := by decide +kernel
theorem d_Mod_spring_32 : decode b_Mod_spring 32 = .ok (.bipush 8, 2) := by decide +kernel
theorem d_Mod_spring_34 : decode b_Mod_spring 34 = .ok (.if_icmp .ge 40, 3) := by decide +kernel
theorem d_Mod_spring_37 : decode b_Mod_spring 37 = .ok (.aload_n 0, 1) := by decide +kernel
theorem d_Mod_spring_38 : decode b_Mod_spring 38 = .ok (.getfield 33, 3) := by decide +kernel
theorem d_Mod_spring_41 : decode b_Mod_spring 41 = .ok (.sipush 132, 3) := by decide +kernel
theorem d_Mod_spring_44 : decode b_Mod_spring 44 = .ok (.bipush 8, 2) := by decide +kernel
theorem d_Mod_spring_46 : decode b_Mod_spring 46 = .ok (.aload_n 0, 1) := by decide +kernel
theorem d_Mod_spring_47 : decode b_Mod_spring 47 = .ok (.getfield 33, 3) := by decide +kernel
theorem d_Mod_spring_50 : decode b_Mod_spring 50 = .ok (.sipush 131, 3) := by decide +kernel
theorem d_Mod_spring_53 : decode b_Mod_spring 53 = .ok (.iaload, 1) := by decide +kernel
theorem d_Mod_spring_54 : decode b_Mod_spring 54 = .ok (.imul, 1) := by decide +kernel
theorem d_Mod_spring_55 : decode b_Mod_spring 55 = .ok (.iadd, 1) := by decide +kernel
theorem d_Mod_spring_56 : decode b_Mod_spring 56 = .ok (.iload_n 2, 1) := by decide +kernel
theorem d_Mod_spring_57 : decode b_Mod_spring 57 = .ok (.iadd, 1) := by decide +kernel
theorem d_Mod_spring_58 : decode b_Mod_spring 58 = .ok (.aload_n 0, 1) := by decide +kernel
theorem d_Mod_spring_59 : decode b_Mod_spring 59 = .ok (.getfield 33, 3) := by decide +kernel
theorem d_Mod_spring_62 : decode b_Mod_spring 62 = .ok (.bipush 123, 2) := by decide +kernel
theorem d_Mod_spring_64 : decode b_Mod_spring 64 = .ok (.iload_n 2, 1) := by decide +kernel
theorem d_Mod_spring_65 : decode b_Mod_spring 65 = .ok (.iadd, 1) := by decide +kernel
theorem d_Mod_spring_66 : decode b_Mod_spring 66 = .ok (.iaload, 1) := by decide +kernel
theorem d_Mod_spring_67 : decode b_Mod_spring 67 = .ok (.iastore, 1) := by decide +kernel
theorem d_Mod_spring_68 : decode b_Mod_spring 68 = .ok (.iinc 2 1, 3) := by decide +kernel
theorem d_Mod_spring_71 : decode b_Mod_spring 71 = .ok (.goto (-40), 3) := by decide +kernel
theorem d_Mod_spring_74 : decode b_Mod_spring 74 = .ok (.aload_n 0, 1) := by decide +kernel
theorem d_Mod_spring_75 : decode b_Mod_spring 75 = .ok (.getfield 33, 3) := by decide +kernel
theorem d_Mod_spring_78 : decode b_Mod_spring 78 = .ok (.sipush 131, 3) := by decide +kernel
theorem d_Mod_spring_81 : decode b_Mod_spring 81 = .ok (.dup2, 1) := by decide +kernel
theorem d_Mod_spring_82 : decode b_Mod_spring 82 = .ok (.iaload, 1) := by decide +kernel
theorem d_Mod_spring_83 : decode b_Mod_spring 83 = .ok (.iconst 1, 1) := by decide +kernel
theorem d_Mod_spring_84 : decode b_Mod_spring 84 = .ok (.iadd, 1) := by decide +kernel
theorem d_Mod_spring_85 : decode b_Mod_spring 85 = .ok (.iastore, 1) := by decide +kernel
theorem d_Mod_spring_86 : decode b_Mod_spring 86 = .ok (.aload_n 0, 1) := by decide +kernel
theorem d_Mod_spring_87 : decode b_Mod_spring 87 = .ok (.iload_n 1, 1) := by decide +kernel
theorem d_Mod_spring_88 : decode b_Mod_spring 88 = .ok (.putfield 258, 3) := by decide +kernel
theorem d_Mod_spring_91 : decode b_Mod_spring 91 = .ok (.iconst 1, 1) := by decide +kernel
theorem d_Mod_spring_92 : decode b_Mod_spring 92 = .ok (.aload_n 0, 1) := by decide +kernel
theorem d_Mod_spring_93 : decode b_Mod_spring 93 = .ok (.getfield 33, 3) := by decide +kernel
theorem d_Mod_spring_96 : decode b_Mod_spring 96 = .ok (.iconst 0, 1) := by decide +kernel
theorem d_Mod_spring_97 : decode b_Mod_spring 97 = .ok (.iaload, 1) := by decide +kernel
theorem d_Mod_spring_98 : decode b_Mod_spring 98 = .ok (.ishl, 1) := by decide +kernel
theorem d_Mod_spring_99 : decode b_Mod_spring 99 = .ok (.iconst 1, 1) := by decide +kernel
theorem d_Mod_spring_100 : decode b_Mod_spring 100 = .ok (.isub, 1) := by decide +kernel
theorem d_Mod_spring_101 : decode b_Mod_spring 101 = .ok (.istore_n 2, 1) := by decide +kernel
theorem d_Mod_spring_102 : decode b_Mod_spring 102 = .ok (.iconst 0, 1) := by decide +kernel
theorem d_Mod_spring_103 : decode b_Mod_spring 103 = .ok (.istore_n 3, 1) := by decide +kernel
theorem d_Mod_spring_104 : decode b_Mod_spring 104 = .ok (.iload_n 3, 1) := by decide +kernel
theorem d_Mod_spring_105 : decode b_Mod_spring 105 = .ok (.aload_n 0, 1) := by decide +kernel
theorem d_Mod_spring_106 : decode b_Mod_spring 106 = .ok (.getfield 33, 3) := by decide +kernel
theorem d_Mod_spring_109 : decode b_Mod_spring 109 = .ok (.iconst 1, 1) := by decide +kernel
theorem d_Mod_spring_110 : decode b_Mod_spring 110 = .ok (.iaload, 1) := by decide +kernel
theorem d_Mod_spring_111 : decode b_Mod_spring 111 = .ok (.if_icmp .ge 126, 3) := by decide +kernel
theorem d_Mod_spring_114 : decode b_Mod_spring 114 = .ok (.aload_n 0, 1) := by decide +kernel
theorem d_Mod_spring_115 : decode b_Mod_spring 115 = .ok (.getfield 33, 3) := by decide +kernel
theorem d_Mod_spring_118 : decode b_Mod_spring 118 = .ok (.bipush 123, 2) := by decide +kernel
theorem d_Mod_spring_120 : decode b_Mod_spring 120 = .ok (.iload_n 3, 1) := by decide +kernel
theorem d_Mod_spring_121 : decode b_Mod_spring 121 = .ok (.iadd, 1) := by decide +kernel
theorem d_Mod_spring_122 : decode b_Mod_spring 122 = .ok (.iconst (-1), 1) := by decide +kernel
theorem d_Mod_spring_123 : decode b_Mod_spring 123 = .ok (.iastore, 1) := by decide +kernel
theorem d_Mod_spring_124 : decode b_Mod_spring 124 = .ok (.iload_n 2, 1) := by decide +kernel
theorem d_Mod_spring_125 : decode b_Mod_spring 125 = .ok (.ifCond .eq 75, 3) := by decide +kernel
theorem d_Mod_spring_128 : decode b_Mod_spring 128 = .ok (.aload_n 0, 1) := by decide +kernel
theorem d_Mod_spring_129 : decode b_Mod_spring 129 = .ok (.iload_n 2, 1) := by decide +kernel
theorem d_Mod_spring_130 : decode b_Mod_spring 130 = .ok (.invokestatic 262, 3) := by decide +kernel
theorem d_Mod_spring_133 : decode b_Mod_spring 133 = .ok (.invokevirtual 265, 3) := by decide +kernel
theorem d_Mod_spring_136 : decode b_Mod_spring 136 = .ok (.istore 4, 2) := by decide +kernel
theorem d_Mod_spring_138 : decode b_Mod_spring 138 = .ok (.iconst 0, 1) := by decide +kernel
theorem d_Mod_spring_139 : decode b_Mod_spring 139 = .ok (.istore 5, 2) := by decide +kernel
theorem d_Mod_spring_141 : decode b_Mod_spring 141 = .ok (.iload_n 2, 1) := by decide +kernel
theorem d_Mod_spring_142 : decode b_Mod_spring 142 = .ok (.iload 5, 2) := by decide +kernel
theorem d_Mod_spring_144 : decode b_Mod_spring 144 = .ok (.invokestatic 217, 3) := by decide +kernel
theorem d_Mod_spring_147 : decode b_Mod_spring 147 = .ok (.ifCond .eq 8, 3) := by decide +kernel
theorem d_Mod_spring_150 : decode b_Mod_spring 150 = .ok (.iload 4, 2) := by decide +kernel
theorem d_Mod_spring_152 : decode b_Mod_spring 152 = .ok (.ifCond .le 28, 3) := by decide +kernel
theorem d_Mod_spring_155 : decode b_Mod_spring 155 = .ok (.iload 4, 2) := by decide +kernel
theorem d_Mod_spring_157 : decode b_Mod_spring 157 = .ok (.iload_n 2, 1) := by decide +kernel
theorem d_Mod_spring_158 : decode b_Mod_spring 158 = .ok (.iload 5, 2) := by decide +kernel
theorem d_Mod_spring_160 : decode b_Mod_spring 160 = .ok (.invokestatic 217, 3) := by decide +kernel
theorem d_Mod_spring_163 : decode b_Mod_spring 163 = .ok (.ifCond .eq 7, 3) := by decide +kernel
theorem d_Mod_spring_166 : decode b_Mod_spring 166 = .ok (.iconst 1, 1) := by decide +kernel
theorem d_Mod_spring_167 : decode b_Mod_spring 167 = .ok (.goto 4, 3) := by decide +kernel
theorem d_Mod_spring_170 : decode b_Mod_spring 170 = .ok (.iconst 0, 1) := by decide +kernel
theorem d_Mod_spring_171 : decode b_Mod_spring 171 = .ok (.isub, 1) := by decide +kernel
theorem d_Mod_spring_172 : decode b_Mod_spring 172 = .ok (.istore 4, 2) := by decide +kernel
theorem d_Mod_spring_174 : decode b_Mod_spring 174 = .ok (.iinc 5 1, 3) := by decide +kernel
theorem d_Mod_spring_177 : decode b_Mod_spring 177 = .ok (.goto (-36), 3) := by decide +kernel
theorem d_Mod_spring_180 : decode b_Mod_spring 180 = .ok (.iload_n 2, 1) := by decide +kernel
theorem d_Mod_spring_181 : decode b_Mod_spring 181 = .ok (.iconst 1, 1) := by decide +kernel
theorem d_Mod_spring_182 : decode b_Mod_spring 182 = .ok (.iload 5, 2) := by decide +kernel
theorem d_Mod_spring_184 : decode b_Mod_spring 184 = .ok (.ishl, 1) := by decide +kernel
theorem d_Mod_spring_185 : decode b_Mod_spring 185 = .ok (.iconst (-1), 1) := by decide +kernel
theorem d_Mod_spring_186 : decode b_Mod_spring 186 = .ok (.ixor, 1) := by decide +kernel
theorem d_Mod_spring_187 : decode b_Mod_spring 187 = .ok (.iand, 1) := by decide +kernel
theorem d_Mod_spring_188 : decode b_Mod_spring 188 = .ok (.istore_n 2, 1) := by decide +kernel
theorem d_Mod_spring_189 : decode b_Mod_spring 189 = .ok (.aload_n 0, 1) := by decide +kernel
theorem d_Mod_spring_190 : decode b_Mod_spring 190 = .ok (.getfield 33, 3) := by decide +kernel
theorem d_Mod_spring_193 : decode b_Mod_spring 193 = .ok (.bipush 123, 2) := by decide +kernel
theorem d_Mod_spring_195 : decode b_Mod_spring 195 = .ok (.iload_n 3, 1) := by decide +kernel
theorem d_Mod_spring_196 : decode b_Mod_spring 196 = .ok (.iadd, 1) := by decide +kernel
theorem d_Mod_spring_197 : decode b_Mod_spring 197 = .ok (.iload 5, 2) := by decide +kernel
theorem d_Mod_spring_199 : decode b_Mod_spring 199 = .ok (.iastore, 1) := by decide +kernel
theorem d_Mod_spring_200 : decode b_Mod_spring 200 = .ok (.aload_n 0, 1) := by decide +kernel
theorem d_Mod_spring_201 : decode b_Mod_spring 201 = .ok (.getfield 33, 3) := by decide +kernel
theorem d_Mod_spring_204 : decode b_Mod_spring 204 = .ok (.sipush 332, 3) := by decide +kernel
theorem d_Mod_spring_207 : decode b_Mod_spring 207 = .ok (.bipush 8, 2) := by decide +kernel
theorem d_Mod_spring_209 : decode b_Mod_spring 209 = .ok (.aload_n 0, 1) := by decide +kernel
theorem d_Mod_spring_210 : decode b_Mod_spring 210 = .ok (.getfield 33, 3) := by decide +kernel
theorem d_Mod_spring_213 : decode b_Mod_spring 213 = .ok (.sipush 131, 3) := by decide +kernel
theorem d_Mod_spring_216 : decode b_Mod_spring 216 = .ok (.iaload, 1) := by decide +kernel
theorem d_Mod_spring_217 : decode b_Mod_spring 217 = .ok (.imul, 1) := by decide +kernel
theorem d_Mod_spring_218 : decode b_Mod_spring 218 = .ok (.iadd, 1) := by decide +kernel
theorem d_Mod_spring_219 : decode b_Mod_spring 219 = .ok (.iload_n 3, 1) := by decide +kernel
theorem d_Mod_spring_220 : decode b_Mod_spring 220 = .ok (.iadd, 1) := by decide +kernel
theorem d_Mod_spring_221 : decode b_Mod_spring 221 = .ok (.aload_n 0, 1) := by decide +kernel
theorem d_Mod_spring_222 : decode b_Mod_spring 222 = .ok (.getfield 33, 3) := by decide +kernel
theorem d_Mod_spring_225 : decode b_Mod_spring 225 = .ok (.bipush 123, 2) := by decide +kernel
theorem d_Mod_spring_227 : decode b_Mod_spring 227 = .ok (.iload_n 3, 1) := by decide +kernel
theorem d_Mod_spring_228 : decode b_Mod_spring 228 = .ok (.iadd, 1) := by decide +kernel
theorem d_Mod_spring_229 : decode b_Mod_spring 229 = .ok (.iaload, 1) := by decide +kernel
theorem d_Mod_spring_230 : decode b_Mod_spring 230 = .ok (.iastore, 1) := by decide +kernel
theorem d_Mod_spring_231 : decode b_Mod_spring 231 = .ok (.iinc 3 1, 3) := by decide +kernel
theorem d_Mod_spring_234 : decode b_Mod_spring 234 = .ok (.goto (-130), 3) := by decide +kernel
theorem d_Mod_spring_237 : decode b_Mod_spring 237 = .ok (.aload_n 0, 1) := by decide +kernel
theorem d_Mod_spring_238 : decode b_Mod_spring 238 = .ok (.getfield 33, 3) := by decide +kernel
theorem d_Mod_spring_241 : decode b_Mod_spring 241 = .ok (.sipush 131, 3) := by decide +kernel
theorem d_Mod_spring_244 : decode b_Mod_spring 244 = .ok (.iaload, 1) := by decide +kernel
theorem d_Mod_spring_245 : decode b_Mod_spring 245 = .ok (.ireturn, 1) := by decide +kernel
noncomputable def f_Mod_spring_L31 (z : Nat → Nat) (o : Nat) (v1 : Int32) (s31 : Int32 × Mm) : Option ((Int32 × Mm) ⊕ (Mm)) :=
  if (8 : Int32) ≤ s31.1 then (
    some (.inr s31.2)
  ) else (
    (mm_ldI (s31.2.1 (o + 2)) (z (o + 2)) (131 : Int32)).bind fun x53 =>
    (mm_ldI (s31.2.1 (o + 2)) (z (o + 2)) ((123 : Int32) + s31.1)).bind fun x66 =>
    (mm_stI s31.2 (o + 2) (z (o + 2)) (((132 : Int32) + ((8 : Int32) * x53)) + s31.1) x66).bind fun m67 =>
    mm_lt (s31.1 + (1 : Int32)) fun x68 =>
    some (.inl (x68, m67))
  )
noncomputable def f_Mod_spring_J200 (z : Nat → Nat) (o : Nat) (v2 : Int32) (v3 : Int32) (m200 : Mm) : Option ((Int32 × Int32 × Mm) ⊕ (Mm)) :=
  (mm_ldI (m200.1 (o + 2)) (z (o + 2)) (131 : Int32)).bind fun x216 =>
  (mm_ldI (m200.1 (o + 2)) (z (o + 2)) ((123 : Int32) + v3)).bind fun x229 =>
  (mm_stI m200 (o + 2) (z (o + 2)) (((332 : Int32) + ((8 : Int32) * x216)) + v3) x229).bind fun m230 =>
  mm_lt (v3 + (1 : Int32)) fun x231 =>
  some (.inl (v2, x231, m230))
noncomputable def f_Mod_spring_J155 (z : Nat → Nat) (o : Nat) (v2 : Int32) (v3 : Int32) (v4 : Int32) (v5 : Int32) (m155 : Mm) : Option ((Int32 × Int32) ⊕ (Int32)) :=
  (f_Mod_has z m155 v2 v5).bind fun q160 =>
  if q160 = 0 then (
    mm_lt ((v4 - (0 : Int32))) fun x172 =>
    mm_lt (v5 + (1 : Int32)) fun x174 =>
    some (.inl (x172, x174))
  ) else (
    mm_lt ((v4 - (1 : Int32))) fun x172 =>
    mm_lt (v5 + (1 : Int32)) fun x174 =>
    some (.inl (x172, x174))
  )
noncomputable def f_Mod_spring_L141 (z : Nat → Nat) (σ : Mm) (o : Nat) (v2 : Int32) (v3 : Int32) (s141 : Int32 × Int32) : Option ((Int32 × Int32) ⊕ (Int32)) :=
  (f_Mod_has z σ v2 s141.2).bind fun q144 =>
  if q144 = 0 then (
    f_Mod_spring_J155 z o v2 v3 s141.1 s141.2 σ
  ) else (
    if s141.1 ≤ 0 then (
      some (.inr s141.2)
    ) else (
      f_Mod_spring_J155 z o v2 v3 s141.1 s141.2 σ
    )
  )
noncomputable def f_Mod_spring_L104 (z : Nat → Nat) (o : Nat) (s104 : Int32 × Int32 × Mm) : Option ((Int32 × Int32 × Mm) ⊕ (Mm)) :=
  (mm_ldI (s104.2.2.1 (o + 2)) (z (o + 2)) (1 : Int32)).bind fun x110 =>
  if x110 ≤ s104.2.1 then (
    some (.inr s104.2.2)
  ) else (
    (mm_stI s104.2.2 (o + 2) (z (o + 2)) ((123 : Int32) + s104.2.1) ((-1) : Int32)).bind fun m123 =>
    if s104.1 = 0 then (
      f_Mod_spring_J200 z o s104.1 s104.2.1 m123
    ) else (
      (f_Mod_bits z m123 s104.1).bind fun q130 =>
      (f_Mod_draw z m123 o q130).bind fun q133 =>
      (mm_lp (f_Mod_spring_L141 z q133.2 o s104.1 s104.2.1) (q133.1, (0 : Int32))).bind (fun q141 =>
        mm_lt ((s104.1 &&& (((1 : Int32) <<< (q141 &&& 31)) ^^^ ((-1) : Int32)))) fun x188 =>
        (mm_stI q133.2 (o + 2) (z (o + 2)) ((123 : Int32) + s104.2.1) q141).bind fun m199 =>
        f_Mod_spring_J200 z o x188 s104.2.1 m199)
    )
  )
noncomputable def f_Mod_spring (z : Nat → Nat) (σ : Mm) (o : Nat) (p1 : Int32) : Option (Int32 × Mm) :=
  mm_lt (kI σ o 0 (0 : Int32)) fun m2 =>
  (mm_ldI (m2.1 (o + 2)) (z (o + 2)) (131 : Int32)).bind fun x12 =>
  if x12 = (24 : Int32) then (
    some (((-1) : Int32), m2)
  ) else (
    (mm_ldI (m2.1 (o + 2)) (z (o + 2)) (0 : Int32)).bind fun x23 =>
    if x23 = 0 then (
      some (((-1) : Int32), m2)
    ) else (
      (mm_lp (f_Mod_spring_L31 z o p1) ((0 : Int32), m2)).bind (fun q31 =>
        (mm_ldI (q31.1 (o + 2)) (z (o + 2)) (131 : Int32)).bind fun x82 =>
        (mm_stI q31 (o + 2) (z (o + 2)) (131 : Int32) (x82 + (1 : Int32))).bind fun m85 =>
        mm_lt (kI m85 o 23 p1) fun m88 =>
        (mm_ldI (m88.1 (o + 2)) (z (o + 2)) (0 : Int32)).bind fun x97 =>
        mm_lt ((((1 : Int32) <<< (x97 &&& 31)) - (1 : Int32))) fun x101 =>
        (mm_lp (f_Mod_spring_L104 z o) (x101, (0 : Int32), m88)).bind (fun q104 =>
          (mm_ldI (q104.1 (o + 2)) (z (o + 2)) (131 : Int32)).bind fun x244 =>
          some (x244, q104)))
    )
  )
set_option maxHeartbeats 4000000 in
set_option maxRecDepth 100000 in
theorem c_Mod_spring (l : Launch) {L : Ly} (hg : gd_ok L) {σ : Mm} {o : Nat} {p1 : Int32} (k_o_0 : ly_k L o = 11) {res : Int32 × Mm} (hf0 : f_Mod_spring (ly_z L) σ o p1 = some res) : CtI l y_Mod_spring b_Mod_spring 6 (some .int) rm_Mod_spring L [.ref (ly_a L o), .int p1] σ res.1 res.2 := by
  refine ct_i hg (by decide) (Nat.le_of_ble_eq_true rfl) ?_
  intro E A Q hE C hN
  subst hE
  have k_o_2 : ly_k L (o + 2) = 20 := gd_Mod_s hg k_o_0
  unfold f_Mod_spring at hf0
  show GW E L A 6 0 0 Q σ 0 [(0, .ref (ly_a L o)), (1, .int p1)] []
  refine gw_aload_n C 0 d_Mod_spring_0 rfl rfl ?_
  refine gw_iconst C (0 : Int32) d_Mod_spring_1 (by decide) ?_
  obtain ⟨m2, em2, hf0⟩ := mx_lt hf0
  refine gw_putI t_Mod C 0 d_Mod_spring_2 k_o_0 (by decide) i_Mod rfl rfl (by decide) qw_1165 rfl rfl t_Mod_ok n_Mod rfl (t_Mod_ok 0 (by decide)) rfl rfl em2 ?_
  refine gw_aload_n C 0 d_Mod_spring_5 rfl rfl ?_
  refine gw_getA C 6 d_Mod_spring_6 k_o_0 (by decide) i_Mod rfl rfl (by decide) qw_1171 rfl rfl (o + 2) rfl ?_
  refine gw_sipush C (131 : Int32) d_Mod_spring_9 (by decide) ?_
  obtain ⟨x12, hx12, hf0⟩ := mx_bd hf0
  obtain ⟨gx12, ex12⟩ := mx_ldI hx12
  refine gw_iald C d_Mod_spring_12 k_o_2 gx12 ex12 ?_
  refine gw_bipush C (24 : Int32) d_Mod_spring_13 (by decide) ?_
  refine gw_icmp_eq C 27 d_Mod_spring_15 (by decide) (fun hc => ?_) (fun hc => ?_)
  · replace hf0 := mx_t hc hf0
    refine gw_iconst C ((-1) : Int32) d_Mod_spring_27 (by decide) ?_
    exact en_i hN hf0 d_Mod_spring_28
  · replace hf0 := mx_f hc hf0
    refine gw_aload_n C 0 d_Mod_spring_18 rfl rfl ?_
    refine gw_getA C 6 d_Mod_spring_19 k_o_0 (by decide) i_Mod rfl rfl (by decide) qw_1171 rfl rfl (o + 2) rfl ?_
    refine gw_iconst C (0 : Int32) d_Mod_spring_22 (by decide) ?_
    obtain ⟨x23, hx23, hf0⟩ := mx_bd hf0
    obtain ⟨gx23, ex23⟩ := mx_ldI hx23
    refine gw_iald C d_Mod_spring_23 k_o_2 gx23 ex23 ?_
    refine gw_if_ne C 29 d_Mod_spring_24 (by decide) (fun hc => ?_) (fun hc => ?_)
    · replace hf0 := mx_f hc hf0
      refine gw_iconst C (0 : Int32) d_Mod_spring_29 (by decide) ?_
      refine gw_istore_n C [(2, .int (0 : Int32)), (0, .ref (ly_a L o)), (1, .int p1)] d_Mod_spring_30 rfl (by decide) rfl ?_
      obtain ⟨q31, hq31, hf0⟩ := mx_bd hf0
      have hk31 : ∀ x9, q31 = x9 → GW E L A 6 0 0 Q x9 74 [(0, .ref (ly_a L o)), (1, .int p1)] [] := by
        intro x9 hx9
        subst hx9
        refine gw_aload_n C 0 d_Mod_spring_74 rfl rfl ?_
        refine gw_getA C 6 d_Mod_spring_75 k_o_0 (by decide) i_Mod rfl rfl (by decide) qw_1171 rfl rfl (o + 2) rfl ?_
        refine gw_sipush C (131 : Int32) d_Mod_spring_78 (by decide) ?_
        refine gw_dup2 C d_Mod_spring_81 rfl rfl ?_
        obtain ⟨x82, hx82, hf0⟩ := mx_bd hf0
        obtain ⟨gx82, ex82⟩ := mx_ldI hx82
        refine gw_iald C d_Mod_spring_82 k_o_2 gx82 ex82 ?_
        refine gw_iconst C (1 : Int32) d_Mod_spring_83 (by decide) ?_
        refine gw_iadd C d_Mod_spring_84 ?_
        obtain ⟨m85, hm85, hf0⟩ := mx_bd hf0
        obtain ⟨gm85, em85⟩ := mx_stI hm85
        refine gw_iast C d_Mod_spring_85 k_o_2 gm85 em85 ?_
        refine gw_aload_n C 0 d_Mod_spring_86 rfl rfl ?_
        refine gw_iload_n C 1 d_Mod_spring_87 rfl rfl ?_
        obtain ⟨m88, em88, hf0⟩ := mx_lt hf0
        refine gw_putI t_Mod C 23 d_Mod_spring_88 k_o_0 (by decide) i_Mod rfl rfl (by decide) qw_1188 rfl rfl t_Mod_ok n_Mod rfl (t_Mod_ok 23 (by decide)) rfl rfl em88 ?_
        refine gw_iconst C (1 : Int32) d_Mod_spring_91 (by decide) ?_
        refine gw_aload_n C 0 d_Mod_spring_92 rfl rfl ?_
        refine gw_getA C 6 d_Mod_spring_93 k_o_0 (by decide) i_Mod rfl rfl (by decide) qw_1171 rfl rfl (o + 2) rfl ?_
        refine gw_iconst C (0 : Int32) d_Mod_spring_96 (by decide) ?_
        obtain ⟨x97, hx97, hf0⟩ := mx_bd hf0
        obtain ⟨gx97, ex97⟩ := mx_ldI hx97
        refine gw_iald C d_Mod_spring_97 k_o_2 gx97 ex97 ?_
        refine gw_ishl C d_Mod_spring_98 ?_
        refine gw_iconst C (1 : Int32) d_Mod_spring_99 (by decide) ?_
        refine gw_isub C d_Mod_spring_100 ?_
        obtain ⟨x101, ex101, hf0⟩ := mx_lt hf0
        refine gw_topi ex101 ?_
        refine gw_istore_n C [(2, .int x101), (0, .ref (ly_a L o)), (1, .int p1)] d_Mod_spring_101 rfl (by decide) rfl ?_
        refine gw_iconst C (0 : Int32) d_Mod_spring_102 (by decide) ?_
        refine gw_istore_n C [(3, .int (0 : Int32)), (2, .int x101), (0, .ref (ly_a L o)), (1, .int p1)] d_Mod_spring_103 rfl (by decide) rfl ?_
        obtain ⟨q104, hq104, hf0⟩ := mx_bd hf0
        have hk104 : ∀ x9, q104 = x9 → GW E L A 6 0 0 Q x9 237 [(0, .ref (ly_a L o))] [] := by
          intro x9 hx9
          subst hx9
          refine gw_aload_n C 0 d_Mod_spring_237 rfl rfl ?_
          refine gw_getA C 6 d_Mod_spring_238 k_o_0 (by decide) i_Mod rfl rfl (by decide) qw_1171 rfl rfl (o + 2) rfl ?_
          refine gw_sipush C (131 : Int32) d_Mod_spring_241 (by decide) ?_
          obtain ⟨x244, hx244, hf0⟩ := mx_bd hf0
          obtain ⟨gx244, ex244⟩ := mx_ldI hx244
          refine gw_iald C d_Mod_spring_244 k_o_2 gx244 ex244 ?_
          exact en_i hN hf0 d_Mod_spring_245
        refine gw_sub [2, 1, 0] (lv' := [(0, .ref (ly_a L o)), (2, .int x101), (3, .int (0 : Int32))]) rfl ?_
        refine mm_rule hq104 (P := fun (s104 : Int32 × Int32 × Mm) => GW E L A 6 0 0 Q s104.2.2 104 [(0, .ref (ly_a L o)), (2, .int s104.1), (3, .int s104.2.1)] []) ?_
        intro s104 ih104 hx104 ⟨w104, hb104⟩
        have hj200 : ∀ (v2 : Int32) (v3 : Int32) (m200 : Mm), f_Mod_spring_J200 (ly_z L) o v2 v3 m200 = some w104 → GW E L A 6 0 0 Q m200 200 [(0, .ref (ly_a L o)), (2, .int v2), (3, .int v3)] [] := by
          intro v2 v3 m200 hf1
          unfold f_Mod_spring_J200 at hf1
          refine gw_aload_n C 0 d_Mod_spring_200 rfl rfl ?_
          refine gw_getA C 6 d_Mod_spring_201 k_o_0 (by decide) i_Mod rfl rfl (by decide) qw_1171 rfl rfl (o + 2) rfl ?_
          refine gw_sipush C (332 : Int32) d_Mod_spring_204 (by decide) ?_
          refine gw_bipush C (8 : Int32) d_Mod_spring_207 (by decide) ?_
          refine gw_aload_n C 0 d_Mod_spring_209 rfl rfl ?_
          refine gw_getA C 6 d_Mod_spring_210 k_o_0 (by decide) i_Mod rfl rfl (by decide) qw_1171 rfl rfl (o + 2) rfl ?_
          refine gw_sipush C (131 : Int32) d_Mod_spring_213 (by decide) ?_
          obtain ⟨x216, hx216, hf1⟩ := mx_bd hf1
          obtain ⟨gx216, ex216⟩ := mx_ldI hx216
          refine gw_iald C d_Mod_spring_216 k_o_2 gx216 ex216 ?_
          refine gw_imul C d_Mod_spring_217 ?_
          refine gw_iadd C d_Mod_spring_218 ?_
          refine gw_iload_n C 2 d_Mod_spring_219 rfl rfl ?_
          refine gw_iadd C d_Mod_spring_220 ?_
          refine gw_aload_n C 0 d_Mod_spring_221 rfl rfl ?_
          refine gw_getA C 6 d_Mod_spring_222 k_o_0 (by decide) i_Mod rfl rfl (by decide) qw_1171 rfl rfl (o + 2) rfl ?_
          refine gw_bipush C (123 : Int32) d_Mod_spring_225 (by decide) ?_
          refine gw_iload_n C 2 d_Mod_spring_227 rfl rfl ?_
          refine gw_iadd C d_Mod_spring_228 ?_
          obtain ⟨x229, hx229, hf1⟩ := mx_bd hf1
          obtain ⟨gx229, ex229⟩ := mx_ldI hx229
          refine gw_iald C d_Mod_spring_229 k_o_2 gx229 ex229 ?_
          obtain ⟨m230, hm230, hf1⟩ := mx_bd hf1
          obtain ⟨gm230, em230⟩ := mx_stI hm230
          refine gw_iast C d_Mod_spring_230 k_o_2 gm230 em230 ?_
          obtain ⟨x231, ex231, hf1⟩ := mx_lt hf1
          refine gw_iinc C 2 [(3, .int x231), (0, .ref (ly_a L o)), (2, .int v2)] d_Mod_spring_231 rfl (by rw [ex231]; rfl) (by decide) rfl ?_
          refine gw_goto C 104 d_Mod_spring_234 (by decide) ?_
          exact gw_go [1, 2, 0] (ih104 (v2, x231, m230) (hb104.trans hf1.symm)) rfl
        have hf1 := hb104
        unfold f_Mod_spring_L104 at hf1
        refine gw_iload_n C 2 d_Mod_spring_104 rfl rfl ?_
        refine gw_aload_n C 0 d_Mod_spring_105 rfl rfl ?_
        refine gw_getA C 6 d_Mod_spring_106 k_o_0 (by decide) i_Mod rfl rfl (by decide) qw_1171 rfl rfl (o + 2) rfl ?_
        refine gw_iconst C (1 : Int32) d_Mod_spring_109 (by decide) ?_
        obtain ⟨x110, hx110, hf1⟩ := mx_bd hf1
        obtain ⟨gx110, ex110⟩ := mx_ldI hx110
        refine gw_iald C d_Mod_spring_110 k_o_2 gx110 ex110 ?_
        refine gw_icmp_ge C 237 d_Mod_spring_111 (by decide) (fun hc => ?_) (fun hc => ?_)
        · replace hf1 := mx_t hc hf1
          exact gw_go [0] (hk104 s104.2.2 (hx104 _ (hb104.trans hf1.symm)).symm) rfl
        · replace hf1 := mx_f hc hf1
          refine gw_aload_n C 0 d_Mod_spring_114 rfl rfl ?_
          refine gw_getA C 6 d_Mod_spring_115 k_o_0 (by decide) i_Mod rfl rfl (by decide) qw_1171 rfl rfl (o + 2) rfl ?_
          refine gw_bipush C (123 : Int32) d_Mod_spring_118 (by decide) ?_
          refine gw_iload_n C 2 d_Mod_spring_120 rfl rfl ?_
          refine gw_iadd C d_Mod_spring_121 ?_
          refine gw_iconst C ((-1) : Int32) d_Mod_spring_122 (by decide) ?_
          obtain ⟨m123, hm123, hf1⟩ := mx_bd hf1
          obtain ⟨gm123, em123⟩ := mx_stI hm123
          refine gw_iast C d_Mod_spring_123 k_o_2 gm123 em123 ?_
          refine gw_iload_n C 1 d_Mod_spring_124 rfl rfl ?_
          refine gw_if_eq C 200 d_Mod_spring_125 (by decide) (fun hc => ?_) (fun hc => ?_)
          · replace hf1 := mx_t hc hf1
            exact gw_go [0, 1, 2] (hj200 _ _ _ hf1) rfl
          · replace hf1 := mx_f hc hf1
            refine gw_aload_n C 0 d_Mod_spring_128 rfl rfl ?_
            refine gw_iload_n C 1 d_Mod_spring_129 rfl rfl ?_
            obtain ⟨q130, hq130, hf1⟩ := mx_bd hf1
            refine gw_callIS C (c_Mod_bits _ hg hq130) d_Mod_spring_130 1 qw_1426 qw_1427 qw_12 qw_1428 hd_Mod_bits rfl rfl (Nat.le_of_ble_eq_true rfl) ⟨rfl, rfl, Nat.le_of_ble_eq_true rfl, Nat.le_of_ble_eq_true rfl⟩ ⟨Nat.zero_le _, Nat.zero_le _⟩ ?_
            obtain ⟨q133, hq133, hf1⟩ := mx_bd hf1
            refine gw_callI C (c_Mod_draw _ hg k_o_0 hq133) d_Mod_spring_133 1 qw_1429 qw_1431 qs_59 qw_12 qw_1432 k_o_0 (by decide) rfl hd_Mod_draw rfl rfl (Nat.le_of_ble_eq_true rfl) ⟨rfl, rfl, Nat.le_of_ble_eq_true rfl, Nat.le_of_ble_eq_true rfl⟩ ⟨Nat.zero_le _, Nat.zero_le _⟩ ?_
            refine gw_istore C [(4, .int q133.1), (0, .ref (ly_a L o)), (2, .int s104.1), (3, .int s104.2.1)] d_Mod_spring_136 (by decide) rfl ?_
            refine gw_iconst C (0 : Int32) d_Mod_spring_138 (by decide) ?_
            refine gw_istore C [(5, .int (0 : Int32)), (4, .int q133.1), (0, .ref (ly_a L o)), (2, .int s104.1), (3, .int s104.2.1)] d_Mod_spring_139 (by decide) rfl ?_
            obtain ⟨q141, hq141, hf1⟩ := mx_bd hf1
            have hk141 : ∀ x9, q141 = x9 → GW E L A 6 0 0 Q q133.2 180 [(0, .ref (ly_a L o)), (2, .int s104.1), (3, .int s104.2.1), (5, .int x9)] [] := by
              intro x9 hx9
              subst hx9
              refine gw_iload_n C 1 d_Mod_spring_180 rfl rfl ?_
              refine gw_iconst C (1 : Int32) d_Mod_spring_181 (by decide) ?_
              refine gw_iload C 3 d_Mod_spring_182 rfl ?_
              refine gw_ishl C d_Mod_spring_184 ?_
              refine gw_iconst C ((-1) : Int32) d_Mod_spring_185 (by decide) ?_
              refine gw_ixor C d_Mod_spring_186 ?_
              refine gw_iand C d_Mod_spring_187 ?_
              obtain ⟨x188, ex188, hf1⟩ := mx_lt hf1
              refine gw_topi ex188 ?_
              refine gw_istore_n C [(2, .int x188), (0, .ref (ly_a L o)), (3, .int s104.2.1), (5, .int q141)] d_Mod_spring_188 rfl (by decide) rfl ?_
              refine gw_aload_n C 1 d_Mod_spring_189 rfl rfl ?_
              refine gw_getA C 6 d_Mod_spring_190 k_o_0 (by decide) i_Mod rfl rfl (by decide) qw_1171 rfl rfl (o + 2) rfl ?_
              refine gw_bipush C (123 : Int32) d_Mod_spring_193 (by decide) ?_
              refine gw_iload_n C 2 d_Mod_spring_195 rfl rfl ?_
              refine gw_iadd C d_Mod_spring_196 ?_
              refine gw_iload C 3 d_Mod_spring_197 rfl ?_
              obtain ⟨m199, hm199, hf1⟩ := mx_bd hf1
              obtain ⟨gm199, em199⟩ := mx_stI hm199
              refine gw_iast C d_Mod_spring_199 k_o_2 gm199 em199 ?_
              exact gw_go [1, 0, 2] (hj200 _ _ _ hf1) rfl
            refine gw_sub [2, 3, 4, 1, 0] (lv' := [(0, .ref (ly_a L o)), (2, .int s104.1), (3, .int s104.2.1), (4, .int q133.1), (5, .int (0 : Int32))]) rfl ?_
            refine mm_rule hq141 (P := fun (s141 : Int32 × Int32) => GW E L A 6 0 0 Q q133.2 141 [(0, .ref (ly_a L o)), (2, .int s104.1), (3, .int s104.2.1), (4, .int s141.1), (5, .int s141.2)] []) ?_
            intro s141 ih141 hx141 ⟨w141, hb141⟩
            have hj155 : ∀ (v4 : Int32) (v5 : Int32), f_Mod_spring_J155 (ly_z L) o s104.1 s104.2.1 v4 v5 q133.2 = some w141 → GW E L A 6 0 0 Q q133.2 155 [(0, .ref (ly_a L o)), (2, .int s104.1), (3, .int s104.2.1), (4, .int v4), (5, .int v5)] [] := by
              intro v4 v5 hf2
              unfold f_Mod_spring_J155 at hf2
              refine gw_iload C 3 d_Mod_spring_155 rfl ?_
              refine gw_iload_n C 1 d_Mod_spring_157 rfl rfl ?_
              refine gw_iload C 4 d_Mod_spring_158 rfl ?_
              obtain ⟨q160, hq160, hf2⟩ := mx_bd hf2
              refine gw_callIS C (c_Mod_has _ hg hq160) d_Mod_spring_160 2 qw_1375 qw_1376 qw_12 qw_1377 hd_Mod_has rfl rfl (Nat.le_of_ble_eq_true rfl) ⟨rfl, rfl, Nat.le_of_ble_eq_true rfl, Nat.le_of_ble_eq_true rfl⟩ ⟨Nat.zero_le _, Nat.zero_le _⟩ ?_
              refine gw_if_eq C 170 d_Mod_spring_163 (by decide) (fun hc => ?_) (fun hc => ?_)
              · replace hf2 := mx_t hc hf2
                refine gw_iconst C (0 : Int32) d_Mod_spring_170 (by decide) ?_
                refine gw_isub C d_Mod_spring_171 ?_
                obtain ⟨x172, ex172, hf2⟩ := mx_lt hf2
                refine gw_topi ex172 ?_
                refine gw_istore C [(4, .int x172), (0, .ref (ly_a L o)), (2, .int s104.1), (3, .int s104.2.1), (5, .int v5)] d_Mod_spring_172 (by decide) rfl ?_
                obtain ⟨x174, ex174, hf2⟩ := mx_lt hf2
                refine gw_iinc C 4 [(5, .int x174), (4, .int x172), (0, .ref (ly_a L o)), (2, .int s104.1), (3, .int s104.2.1)] d_Mod_spring_174 rfl (by rw [ex174]; rfl) (by decide) rfl ?_
                refine gw_goto C 141 d_Mod_spring_177 (by decide) ?_
                exact gw_go [2, 3, 4, 1, 0] (ih141 (x172, x174) (hb141.trans hf2.symm)) rfl
              · replace hf2 := mx_f hc hf2
                refine gw_iconst C (1 : Int32) d_Mod_spring_166 (by decide) ?_
                refine gw_goto C 171 d_Mod_spring_167 (by decide) ?_
                refine gw_isub C d_Mod_spring_171 ?_
                obtain ⟨x172, ex172, hf2⟩ := mx_lt hf2
                refine gw_topi ex172 ?_
                refine gw_istore C [(4, .int x172), (0, .ref (ly_a L o)), (2, .int s104.1), (3, .int s104.2.1), (5, .int v5)] d_Mod_spring_172 (by decide) rfl ?_
                obtain ⟨x174, ex174, hf2⟩ := mx_lt hf2
                refine gw_iinc C 4 [(5, .int x174), (4, .int x172), (0, .ref (ly_a L o)), (2, .int s104.1), (3, .int s104.2.1)] d_Mod_spring_174 rfl (by rw [ex174]; rfl) (by decide) rfl ?_
                refine gw_goto C 141 d_Mod_spring_177 (by decide) ?_
                exact gw_go [2, 3, 4, 1, 0] (ih141 (x172, x174) (hb141.trans hf2.symm)) rfl
            have hf2 := hb141
            unfold f_Mod_spring_L141 at hf2
            refine gw_iload_n C 1 d_Mod_spring_141 rfl rfl ?_
            refine gw_iload C 4 d_Mod_spring_142 rfl ?_
            obtain ⟨q144, hq144, hf2⟩ := mx_bd hf2
            refine gw_callIS C (c_Mod_has _ hg hq144) d_Mod_spring_144 2 qw_1375 qw_1376 qw_12 qw_1377 hd_Mod_has rfl rfl (Nat.le_of_ble_eq_true rfl) ⟨rfl, rfl, Nat.le_of_ble_eq_true rfl, Nat.le_of_ble_eq_true rfl⟩ ⟨Nat.zero_le _, Nat.zero_le _⟩ ?_
            refine gw_if_eq C 155 d_Mod_spring_147 (by decide) (fun hc => ?_) (fun hc => ?_)
            · replace hf2 := mx_t hc hf2
              exact gw_go [0, 1, 2, 3, 4] (hj155 _ _ hf2) rfl
            · replace hf2 := mx_f hc hf2
              refine gw_iload C 3 d_Mod_spring_150 rfl ?_
              refine gw_if_le C 180 d_Mod_spring_152 (by decide) (fun hc => ?_) (fun hc => ?_)
              · replace hf2 := mx_t hc hf2
                exact gw_go [0, 1, 2, 4] (hk141 s141.2 (hx141 _ (hb141.trans hf2.symm)).symm) rfl
              · replace hf2 := mx_f hc hf2
                exact gw_go [0, 1, 2, 3, 4] (hj155 _ _ hf2) rfl
      refine gw_sub [1, 2, 0] (lv' := [(0, .ref (ly_a L o)), (1, .int p1), (2, .int (0 : Int32))]) rfl ?_
      refine mm_rule hq31 (P := fun (s31 : Int32 × Mm) => GW E L A 6 0 0 Q s31.2 31 [(0, .ref (ly_a L o)), (1, .int p1), (2, .int s31.1)] []) ?_
      intro s31 ih31 hx31 ⟨w31, hb31⟩
      have hf1 := hb31
      unfold f_Mod_spring_L31 at hf1
      refine gw_iload_n C 2 d_Mod_spring_31 rfl rfl ?_
      refine gw_bipush C (8 : Int32) d_Mod_spring_32 (by decide) ?_
      refine gw_icmp_ge C 74 d_Mod_spring_34 (by decide) (fun hc => ?_) (fun hc => ?_)
      · replace hf1 := mx_t hc hf1
        exact gw_go [0, 1] (hk31 s31.2 (hx31 _ (hb31.trans hf1.symm)).symm) rfl
      · replace hf1 := mx_f hc hf1
        refine gw_aload_n C 0 d_Mod_spring_37 rfl rfl ?_
        refine gw_getA C 6 d_Mod_spring_38 k_o_0 (by decide) i_Mod rfl rfl (by decide) qw_1171 rfl rfl (o + 2) rfl ?_
        refine gw_sipush C (132 : Int32) d_Mod_spring_41 (by decide) ?_
        refine gw_bipush C (8 : Int32) d_Mod_spring_44 (by decide) ?_
        refine gw_aload_n C 0 d_Mod_spring_46 rfl rfl ?_
        refine gw_getA C 6 d_Mod_spring_47 k_o_0 (by decide) i_Mod rfl rfl (by decide) qw_1171 rfl rfl (o + 2) rfl ?_
        refine gw_sipush C (131 : Int32) d_Mod_spring_50 (by decide) ?_
        obtain ⟨x53, hx53, hf1⟩ := mx_bd hf1
        obtain ⟨gx53, ex53⟩ := mx_ldI hx53
        refine gw_iald C d_Mod_spring_53 k_o_2 gx53 ex53 ?_
        refine gw_imul C d_Mod_spring_54 ?_
        refine gw_iadd C d_Mod_spring_55 ?_
        refine gw_iload_n C 2 d_Mod_spring_56 rfl rfl ?_
        refine gw_iadd C d_Mod_spring_57 ?_
        refine gw_aload_n C 0 d_Mod_spring_58 rfl rfl ?_
        refine gw_getA C 6 d_Mod_spring_59 k_o_0 (by decide) i_Mod rfl rfl (by decide) qw_1171 rfl rfl (o + 2) rfl ?_
        refine gw_bipush C (123 : Int32) d_Mod_spring_62 (by decide) ?_
        refine gw_iload_n C 2 d_Mod_spring_64 rfl rfl ?_
        refine gw_iadd C d_Mod_spring_65 ?_
        obtain ⟨x66, hx66, hf1⟩ := mx_bd hf1
        obtain ⟨gx66, ex66⟩ := mx_ldI hx66
        refine gw_iald C d_Mod_spring_66 k_o_2 gx66 ex66 ?_
        obtain ⟨m67, hm67, hf1⟩ := mx_bd hf1
        obtain ⟨gm67, em67⟩ := mx_stI hm67
        refine gw_iast C d_Mod_spring_67 k_o_2 gm67 em67 ?_
        obtain ⟨x68, ex68, hf1⟩ := mx_lt hf1
        refine gw_iinc C 2 [(2, .int x68), (0, .ref (ly_a L o)), (1, .int p1)] d_Mod_spring_68 rfl (by rw [ex68]; rfl) (by decide) rfl ?_
        refine gw_goto C 31 d_Mod_spring_71 (by decide) ?_
        exact gw_go [1, 2, 0] (ih31 (x68, m67) (hb31.trans hf1.symm)) rfl
    · replace hf0 := mx_t hc hf0
      refine gw_iconst C ((-1) : Int32) d_Mod_spring_27 (by decide) ?_
      exact en_i hN hf0 d_Mod_spring_28

/-! NameHatModel.isSpring(I)Z -/
abbrev b_Mod_isSpring : ByteArray := prog_14_method_41_code
def y_Mod_isSpring : MethodName := ⟨"NameHatModel", "isSpring", "(I)Z"⟩
abbrev rm_Mod_isSpring : Room := { frames := 1, cells := 0, slots := 0, locals := 22 }
theorem hd_Mod_isSpring : y_Mod_isSpring.cls ≠ "java/lang/invoke/MethodHandle" ∧ y_Mod_isSpring.cls ≠ "java/lang/invoke/VarHandle" ∧ (parseMethodDescriptor y_Mod_isSpring.desc).map (fun d => d.parameters.length) = some 1 := by decide +kernel
theorem d_Mod_isSpring_0 : decode b_Mod_isSpring 0 = .ok (.iload_n 1, 1) := by decide +kernel
theorem d_Mod_isSpring_1 : decode b_Mod_isSpring 1 = .ok (.iconst 0, 1) := by decide +kernel
theorem d_Mod_isSpring_2 : decode b_Mod_isSpring 2 = .ok (.aload_n 0, 1) := by decide +kernel
theorem d_Mod_isSpring_3 : decode b_Mod_isSpring 3 = .ok (.getfield 33, 3) := by decide +kernel
theorem d_Mod_isSpring_6 : decode b_Mod_isSpring 6 = .ok (.sipush 131, 3) := by decide +kernel
theorem d_Mod_isSpring_9 : decode b_Mod_isSpring 9 = .ok (.iaload, 1) := by decide +kernel
theorem d_Mod_isSpring_10 : decode b_Mod_isSpring 10 = .ok (.invokestatic 175, 3) := by decide +kernel
theorem d_Mod_isSpring_13 : decode b_Mod_isSpring 13 = .ok (.ireturn, 1) := by decide +kernel
noncomputable def f_Mod_isSpring (z : Nat → Nat) (σ : Mm) (o : Nat) (p1 : Int32) : Option (Int32) :=
  (mm_ldI (σ.1 (o + 2)) (z (o + 2)) (131 : Int32)).bind fun x9 =>
  (f_Mod_isIn z σ p1 (0 : Int32) x9).bind fun q10 =>
  (mm_zb q10).bind fun y13 =>
  some y13
set_option maxHeartbeats 4000000 in
set_option maxRecDepth 100000 in
theorem c_Mod_isSpring (l : Launch) {L : Ly} (hg : gd_ok L) {σ : Mm} {o : Nat} {p1 : Int32} (k_o_0 : ly_k L o = 11) {res : Int32} (hf0 : f_Mod_isSpring (ly_z L) σ o p1 = some res) : CtI l y_Mod_isSpring b_Mod_isSpring 2 (some .boolean) rm_Mod_isSpring L [.ref (ly_a L o), .int p1] σ res σ := by
  refine ct_z hg (by decide) (Nat.le_of_ble_eq_true rfl) ?_
  intro E A Q hE C hN
  subst hE
  have k_o_2 : ly_k L (o + 2) = 20 := gd_Mod_s hg k_o_0
  unfold f_Mod_isSpring at hf0
  show GW E L A 2 0 0 Q σ 0 [(0, .ref (ly_a L o)), (1, .int p1)] []
  refine gw_iload_n C 1 d_Mod_isSpring_0 rfl rfl ?_
  refine gw_iconst C (0 : Int32) d_Mod_isSpring_1 (by decide) ?_
  refine gw_aload_n C 0 d_Mod_isSpring_2 rfl rfl ?_
  refine gw_getA C 6 d_Mod_isSpring_3 k_o_0 (by decide) i_Mod rfl rfl (by decide) qw_1171 rfl rfl (o + 2) rfl ?_
  refine gw_sipush C (131 : Int32) d_Mod_isSpring_6 (by decide) ?_
  obtain ⟨x9, hx9, hf0⟩ := mx_bd hf0
  obtain ⟨gx9, ex9⟩ := mx_ldI hx9
  refine gw_iald C d_Mod_isSpring_9 k_o_2 gx9 ex9 ?_
  obtain ⟨q10, hq10, hf0⟩ := mx_bd hf0
  refine gw_callIS C (c_Mod_isIn _ hg hq10) d_Mod_isSpring_10 3 qw_1356 qw_1357 qw_12 qw_1358 hd_Mod_isIn rfl rfl (Nat.le_of_ble_eq_true rfl) ⟨rfl, rfl, Nat.le_of_ble_eq_true rfl, Nat.le_of_ble_eq_true rfl⟩ ⟨Nat.zero_le _, Nat.zero_le _⟩ ?_
  obtain ⟨y13, hy13, hf0⟩ := mx_bd hf0
  obtain ⟨zy13, ey13⟩ := mx_zb hy13
  refine gw_topi ey13 ?_
  exact en_zp hN zy13 hf0 d_Mod_isSpring_13

/-! NameHatModel.heldAt(II)I -/
abbrev b_Mod_heldAt : ByteArray := prog_14_method_42_code
def y_Mod_heldAt : MethodName := ⟨"NameHatModel", "heldAt", "(II)I"⟩
abbrev rm_Mod_heldAt : Room := { frames := 0, cells := 0, slots := 0, locals := 0 }
theorem hd_Mod_heldAt : y_Mod_heldAt.cls ≠ "java/lang/invoke/MethodHandle" ∧ y_Mod_heldAt.cls ≠ "java/lang/invoke/VarHandle" ∧ (parseMethodDescriptor y_Mod_heldAt.desc).map (fun d => d.parameters.length) = some 2 := by decide +kernel
theorem d_Mod_heldAt_0 : decode b_Mod_heldAt 0 = .ok (.iload_n 2, 1) := by decide +kernel
theorem d_Mod_heldAt_1 : decode b_Mod_heldAt 1 = .ok (.aload_n 0, 1) := by decide +kernel
theorem d_Mod_heldAt_2 : decode b_Mod_heldAt 2 = .ok (.getfield 33, 3) := by decide +kernel
theorem d_Mod_heldAt_5 : decode b_Mod_heldAt 5 = .ok (.sipush 131, 3) := by decide +kernel
theorem d_Mod_heldAt_8 : decode b_Mod_heldAt 8 = .ok (.iaload, 1) := by decide +kernel
theorem d_Mod_heldAt_9 : decode b_Mod_heldAt 9 = .ok (.if_icmp .ne 15, 3) := by decide +kernel
theorem d_Mod_heldAt_12 : decode b_Mod_heldAt 12 = .ok (.aload_n 0, 1) := by decide +kernel
theorem d_Mod_heldAt_13 : decode b_Mod_heldAt 13 = .ok (.getfield 33, 3) := by decide +kernel
theorem d_Mod_heldAt_16 : decode b_Mod_heldAt 16 = .ok (.bipush 123, 2) := by decide +kernel
theorem d_Mod_heldAt_18 : decode b_Mod_heldAt 18 = .ok (.iload_n 1, 1) := by decide +kernel
theorem d_Mod_heldAt_19 : decode b_Mod_heldAt 19 = .ok (.iadd, 1) := by decide +kernel
theorem d_Mod_heldAt_20 : decode b_Mod_heldAt 20 = .ok (.iaload, 1) := by decide +kernel
theorem d_Mod_heldAt_21 : decode b_Mod_heldAt 21 = .ok (.goto 18, 3) := by decide +kernel
theorem d_Mod_heldAt_24 : decode b_Mod_heldAt 24 = .ok (.aload_n 0, 1) := by decide +kernel
theorem d_Mod_heldAt_25 : decode b_Mod_heldAt 25 = .ok (.getfield 33, 3) := by decide +kernel
theorem d_Mod_heldAt_28 : decode b_Mod_heldAt 28 = .ok (.sipush 132, 3) := by decide +kernel
theorem d_Mod_heldAt_31 : decode b_Mod_heldAt 31 = .ok (.bipush 8, 2) := by decide +kernel
theorem d_Mod_heldAt_33 : decode b_Mod_heldAt 33 = .ok (.iload_n 2, 1) := by decide +kernel
theorem d_Mod_heldAt_34 : decode b_Mod_heldAt 34 = .ok (.imul, 1) := by decide +kernel
theorem d_Mod_heldAt_35 : decode b_Mod_heldAt 35 = .ok (.iadd, 1) := by decide +kernel
theorem d_Mod_heldAt_36 : decode b_Mod_heldAt 36 = .ok (.iload_n 1, 1) := by decide +kernel
theorem d_Mod_heldAt_37 : decode b_Mod_heldAt 37 = .ok (.iadd, 1) := by decide +kernel
theorem d_Mod_heldAt_38 : decode b_Mod_heldAt 38 = .ok (.iaload, 1) := by decide +kernel
theorem d_Mod_heldAt_39 : decode b_Mod_heldAt 39 = .ok (.ireturn, 1) := by decide +kernel
noncomputable def f_Mod_heldAt (z : Nat → Nat) (σ : Mm) (o : Nat) (p1 : Int32) (p2 : Int32) : Option (Int32) :=
  (mm_ldI (σ.1 (o + 2)) (z (o + 2)) (131 : Int32)).bind fun x8 =>
  if p2 = x8 then (
    (mm_ldI (σ.1 (o + 2)) (z (o + 2)) ((123 : Int32) + p1)).bind fun x20 =>
    some x20
  ) else (
    (mm_ldI (σ.1 (o + 2)) (z (o + 2)) (((132 : Int32) + ((8 : Int32) * p2)) + p1)).bind fun x38 =>
    some x38
  )
set_option maxHeartbeats 4000000 in
set_option maxRecDepth 100000 in
theorem c_Mod_heldAt (l : Launch) {L : Ly} (hg : gd_ok L) {σ : Mm} {o : Nat} {p1 : Int32} {p2 : Int32} (k_o_0 : ly_k L o = 11) {res : Int32} (hf0 : f_Mod_heldAt (ly_z L) σ o p1 p2 = some res) : CtI l y_Mod_heldAt b_Mod_heldAt 3 (some .int) rm_Mod_heldAt L [.ref (ly_a L o), .int p1, .int p2] σ res σ := by
  refine ct_i hg (by decide) (Nat.le_of_ble_eq_true rfl) ?_
  intro E A Q hE C hN
  subst hE
  have k_o_2 : ly_k L (o + 2) = 20 := gd_Mod_s hg k_o_0
  unfold f_Mod_heldAt at hf0
  show GW E L A 3 0 0 Q σ 0 [(0, .ref (ly_a L o)), (1, .int p1), (2, .int p2)] []
  refine gw_iload_n C 2 d_Mod_heldAt_0 rfl rfl ?_
  refine gw_aload_n C 0 d_Mod_heldAt_1 rfl rfl ?_
  refine gw_getA C 6 d_Mod_heldAt_2 k_o_0 (by decide) i_Mod rfl rfl (by decide) qw_1171 rfl rfl (o + 2) rfl ?_
  refine gw_sipush C (131 : Int32) d_Mod_heldAt_5 (by decide) ?_
  obtain ⟨x8, hx8, hf0⟩ := mx_bd hf0
  obtain ⟨gx8, ex8⟩ := mx_ldI hx8
  refine gw_iald C d_Mod_heldAt_8 k_o_2 gx8 ex8 ?_
  refine gw_icmp_ne C 24 d_Mod_heldAt_9 (by decide) (fun hc => ?_) (fun hc => ?_)
  · replace hf0 := mx_f hc hf0
    refine gw_aload_n C 0 d_Mod_heldAt_24 rfl rfl ?_
    refine gw_getA C 6 d_Mod_heldAt_25 k_o_0 (by decide) i_Mod rfl rfl (by decide) qw_1171 rfl rfl (o + 2) rfl ?_
    refine gw_sipush C (132 : Int32) d_Mod_heldAt_28 (by decide) ?_
    refine gw_bipush C (8 : Int32) d_Mod_heldAt_31 (by decide) ?_
    refine gw_iload_n C 2 d_Mod_heldAt_33 rfl rfl ?_
    refine gw_imul C d_Mod_heldAt_34 ?_
    refine gw_iadd C d_Mod_heldAt_35 ?_
    refine gw_iload_n C 1 d_Mod_heldAt_36 rfl rfl ?_
    refine gw_iadd C d_Mod_heldAt_37 ?_
    obtain ⟨x38, hx38, hf0⟩ := mx_bd hf0
    obtain ⟨gx38, ex38⟩ := mx_ldI hx38
    refine gw_iald C d_Mod_heldAt_38 k_o_2 gx38 ex38 ?_
    exact en_ip hN hf0 d_Mod_heldAt_39
  · replace hf0 := mx_t hc hf0
    refine gw_aload_n C 0 d_Mod_heldAt_12 rfl rfl ?_
    refine gw_getA C 6 d_Mod_heldAt_13 k_o_0 (by decide) i_Mod rfl rfl (by decide) qw_1171 rfl rfl (o + 2) rfl ?_
    refine gw_bipush C (123 : Int32) d_Mod_heldAt_16 (by decide) ?_
    refine gw_iload_n C 1 d_Mod_heldAt_18 rfl rfl ?_
    refine gw_iadd C d_Mod_heldAt_19 ?_
    obtain ⟨x20, hx20, hf0⟩ := mx_bd hf0
    obtain ⟨gx20, ex20⟩ := mx_ldI hx20
    refine gw_iald C d_Mod_heldAt_20 k_o_2 gx20 ex20 ?_
    refine gw_goto C 39 d_Mod_heldAt_21 (by decide) ?_
    exact en_ip hN hf0 d_Mod_heldAt_39

/-! NameHatModel.held(II)I -/
abbrev b_Mod_held : ByteArray := prog_14_method_43_code
def y_Mod_held : MethodName := ⟨"NameHatModel", "held", "(II)I"⟩
abbrev rm_Mod_held : Room := { frames := 2, cells := 0, slots := 0, locals := 43 }
theorem hd_Mod_held : y_Mod_held.cls ≠ "java/lang/invoke/MethodHandle" ∧ y_Mod_held.cls ≠ "java/lang/invoke/VarHandle" ∧ (parseMethodDescriptor y_Mod_held.desc).map (fun d => d.parameters.length) = some 2 := by decide +kernel
theorem d_Mod_held_0 : decode b_Mod_held 0 = .ok (.aload_n 0, 1) := by decide +kernel
theorem d_Mod_held_1 : decode b_Mod_held 1 = .ok (.iconst 0, 1) := by decide +kernel
theorem d_Mod_held_2 : decode b_Mod_held 2 = .ok (.putfield 1, 3) := by decide +kernel
theorem d_Mod_held_5 : decode b_Mod_held 5 = .ok (.aload_n 0, 1) := by decide +kernel
theorem d_Mod_held_6 : decode b_Mod_held 6 = .ok (.iload_n 1, 1) := by decide +kernel
theorem d_Mod_held_7 : decode b_Mod_held 7 = .ok (.invokevirtual 252, 3) := by decide +kernel
theorem d_Mod_held_10 : decode b_Mod_held 10 = .ok (.ifCond .eq 20, 3) := by decide +kernel
theorem d_Mod_held_13 : decode b_Mod_held 13 = .ok (.aload_n 0, 1) := by decide +kernel
theorem d_Mod_held_14 : decode b_Mod_held 14 = .ok (.iload_n 2, 1) := by decide +kernel
theorem d_Mod_held_15 : decode b_Mod_held 15 = .ok (.invokevirtual 268, 3) := by decide +kernel
theorem d_Mod_held_18 : decode b_Mod_held 18 = .ok (.ifCond .eq 12, 3) := by decide +kernel
theorem d_Mod_held_21 : decode b_Mod_held 21 = .ok (.aload_n 0, 1) := by decide +kernel
theorem d_Mod_held_22 : decode b_Mod_held 22 = .ok (.iload_n 1, 1) := by decide +kernel
theorem d_Mod_held_23 : decode b_Mod_held 23 = .ok (.iload_n 2, 1) := by decide +kernel
theorem d_Mod_held_24 : decode b_Mod_held 24 = .ok (.invokevirtual 271, 3) := by decide +kernel
theorem d_Mod_held_27 : decode b_Mod_held 27 = .ok (.goto 4, 3) := by decide +kernel
theorem d_Mod_held_30 : decode b_Mod_held 30 = .ok (.iconst (-1), 1) := by decide +kernel
theorem d_Mod_held_31 : decode b_Mod_held 31 = .ok (.ireturn, 1) := by decide +kernel
noncomputable def f_Mod_held (z : Nat → Nat) (σ : Mm) (o : Nat) (p1 : Int32) (p2 : Int32) : Option (Int32 × Mm) :=
  mm_lt (kI σ o 0 (0 : Int32)) fun m2 =>
  (f_Mod_isHouse z m2 o p1).bind fun q7 =>
  if q7 = 0 then (
    some (((-1) : Int32), m2)
  ) else (
    (f_Mod_isSpring z m2 o p2).bind fun q15 =>
    if q15 = 0 then (
      some (((-1) : Int32), m2)
    ) else (
      (f_Mod_heldAt z m2 o p1 p2).bind fun q24 =>
      some (q24, m2)
    )
  )
set_option maxHeartbeats 4000000 in
set_option maxRecDepth 100000 in
theorem c_Mod_held (l : Launch) {L : Ly} (hg : gd_ok L) {σ : Mm} {o : Nat} {p1 : Int32} {p2 : Int32} (k_o_0 : ly_k L o = 11) {res : Int32 × Mm} (hf0 : f_Mod_held (ly_z L) σ o p1 p2 = some res) : CtI l y_Mod_held b_Mod_held 3 (some .int) rm_Mod_held L [.ref (ly_a L o), .int p1, .int p2] σ res.1 res.2 := by
  refine ct_i hg (by decide) (Nat.le_of_ble_eq_true rfl) ?_
  intro E A Q hE C hN
  subst hE
  unfold f_Mod_held at hf0
  show GW E L A 3 0 0 Q σ 0 [(0, .ref (ly_a L o)), (1, .int p1), (2, .int p2)] []
  refine gw_aload_n C 0 d_Mod_held_0 rfl rfl ?_
  refine gw_iconst C (0 : Int32) d_Mod_held_1 (by decide) ?_
  obtain ⟨m2, em2, hf0⟩ := mx_lt hf0
  refine gw_putI t_Mod C 0 d_Mod_held_2 k_o_0 (by decide) i_Mod rfl rfl (by decide) qw_1165 rfl rfl t_Mod_ok n_Mod rfl (t_Mod_ok 0 (by decide)) rfl rfl em2 ?_
  refine gw_aload_n C 0 d_Mod_held_5 rfl rfl ?_
  refine gw_iload_n C 1 d_Mod_held_6 rfl rfl ?_
  obtain ⟨q7, hq7, hf0⟩ := mx_bd hf0
  refine gw_callI C (c_Mod_isHouse _ hg k_o_0 hq7) d_Mod_held_7 1 qw_1410 qw_1412 qs_57 qw_12 qw_1413 k_o_0 (by decide) rfl hd_Mod_isHouse rfl rfl (Nat.le_of_ble_eq_true rfl) ⟨rfl, rfl, Nat.le_of_ble_eq_true rfl, Nat.le_of_ble_eq_true rfl⟩ ⟨Nat.zero_le _, Nat.zero_le _⟩ ?_
  refine gw_if_eq C 30 d_Mod_held_10 (by decide) (fun hc => ?_) (fun hc => ?_)
  · replace hf0 := mx_t hc hf0
    refine gw_iconst C ((-1) : Int32) d_Mod_held_30 (by decide) ?_
    exact en_i hN hf0 d_Mod_held_31
  · replace hf0 := mx_f hc hf0
    refine gw_aload_n C 0 d_Mod_held_13 rfl rfl ?_
    refine gw_iload_n C 2 d_Mod_held_14 rfl rfl ?_
    obtain ⟨q15, hq15, hf0⟩ := mx_bd hf0
    refine gw_callI C (c_Mod_isSpring _ hg k_o_0 hq15) d_Mod_held_15 1 qw_1438 qw_1440 qs_60 qw_12 qw_1441 k_o_0 (by decide) rfl hd_Mod_isSpring rfl rfl (Nat.le_of_ble_eq_true rfl) ⟨rfl, rfl, Nat.le_of_ble_eq_true rfl, Nat.le_of_ble_eq_true rfl⟩ ⟨Nat.zero_le _, Nat.zero_le _⟩ ?_
    refine gw_if_eq C 30 d_Mod_held_18 (by decide) (fun hc => ?_) (fun hc => ?_)
    · replace hf0 := mx_t hc hf0
      refine gw_iconst C ((-1) : Int32) d_Mod_held_30 (by decide) ?_
      exact en_i hN hf0 d_Mod_held_31
    · replace hf0 := mx_f hc hf0
      refine gw_aload_n C 0 d_Mod_held_21 rfl rfl ?_
      refine gw_iload_n C 1 d_Mod_held_22 rfl rfl ?_
      refine gw_iload_n C 2 d_Mod_held_23 rfl rfl ?_
      obtain ⟨q24, hq24, hf0⟩ := mx_bd hf0
      refine gw_callI C (c_Mod_heldAt _ hg k_o_0 hq24) d_Mod_held_24 2 qw_1442 qw_1444 qs_61 qw_12 qw_1445 k_o_0 (by decide) rfl hd_Mod_heldAt rfl rfl (Nat.le_of_ble_eq_true rfl) ⟨rfl, rfl, Nat.le_of_ble_eq_true rfl, Nat.le_of_ble_eq_true rfl⟩ ⟨Nat.zero_le _, Nat.zero_le _⟩ ?_
      refine gw_goto C 31 d_Mod_held_27 (by decide) ?_
      exact en_i hN hf0 d_Mod_held_31

/-! NameHatModel.keeper(II)I -/
abbrev b_Mod_keeper : ByteArray := prog_14_method_44_code
def y_Mod_keeper : MethodName := ⟨"NameHatModel", "keeper", "(II)I"⟩
abbrev rm_Mod_keeper : Room := { frames := 2, cells := 0, slots := 0, locals := 43 }
theorem hd_Mod_keeper : y_Mod_keeper.cls ≠ "java/lang/invoke/MethodHandle" ∧ y_Mod_keeper.cls ≠ "java/lang/invoke/VarHandle" ∧ (parseMethodDescriptor y_Mod_keeper.desc).map (fun d => d.parameters.length) = some 2 := by decide +kernel
theorem d_Mod_keeper_0 : decode b_Mod_keeper 0 = .ok (.aload_n 0, 1) := by decide +kernel
theorem d_Mod_keeper_1 : decode b_Mod_keeper 1 = .ok (.iconst 0, 1) := by decide +kernel
theorem d_Mod_keeper_2 : decode b_Mod_keeper 2 = .ok (.putfield 1, 3) := by decide +kernel
theorem d_Mod_keeper_5 : decode b_Mod_keeper 5 = .ok (.aload_n 0, 1) := by decide +kernel
theorem d_Mod_keeper_6 : decode b_Mod_keeper 6 = .ok (.iload_n 1, 1) := by decide +kernel
theorem d_Mod_keeper_7 : decode b_Mod_keeper 7 = .ok (.invokevirtual 241, 3) := by decide +kernel
theorem d_Mod_keeper_10 : decode b_Mod_keeper 10 = .ok (.ifCond .eq 11, 3) := by decide +kernel
theorem d_Mod_keeper_13 : decode b_Mod_keeper 13 = .ok (.aload_n 0, 1) := by decide +kernel
theorem d_Mod_keeper_14 : decode b_Mod_keeper 14 = .ok (.iload_n 2, 1) := by decide +kernel
theorem d_Mod_keeper_15 : decode b_Mod_keeper 15 = .ok (.invokevirtual 268, 3) := by decide +kernel
theorem d_Mod_keeper_18 : decode b_Mod_keeper 18 = .ok (.ifCond .ne 5, 3) := by decide +kernel
theorem d_Mod_keeper_21 : decode b_Mod_keeper 21 = .ok (.iconst (-1), 1) := by decide +kernel
theorem d_Mod_keeper_22 : decode b_Mod_keeper 22 = .ok (.ireturn, 1) := by decide +kernel
theorem d_Mod_keeper_23 : decode b_Mod_keeper 23 = .ok (.iconst 0, 1) := by decide +kernel
theorem d_Mod_keeper_24 : decode b_Mod_keeper 24 = .ok (.istore_n 3, 1) := by decide +kernel
theorem d_Mod_keeper_25 : decode b_Mod_keeper 25 = .ok (.iload_n 3, 1) := by decide +kernel
theorem d_Mod_keeper_26 : decode b_Mod_keeper 26 = .ok (.aload_n 0, 1) := by decide +kernel
theorem d_Mod_keeper_27 : decode b_Mod_keeper 27 = .ok (.getfield 33, 3) := by decide +kernel
theorem d_Mod_keeper_30 : decode b_Mod_keeper 30 = .ok (.iconst 1, 1) := by decide +kernel
theorem d_Mod_keeper_31 : decode b_Mod_keeper 31 = .ok (.iaload, 1) := by decide +kernel
theorem d_Mod_keeper_32 : decode b_Mod_keeper 32 = .ok (.if_icmp .ge 21, 3) := by decide +kernel
theorem d_Mod_keeper_35 : decode b_Mod_keeper 35 = .ok (.aload_n 0, 1) := by decide +kernel
theorem d_Mod_keeper_36 : decode b_Mod_keeper 36 = .ok (.iload_n 3, 1) := by decide +kernel
theorem d_Mod_keeper_37 : decode b_Mod_keeper 37 = .ok (.iload_n 2, 1) := by decide +kernel
theorem d_Mod_keeper_38 : decode b_Mod_keeper 38 = .ok (.invokevirtual 271, 3) := by decide +kernel
theorem d_Mod_keeper_41 : decode b_Mod_keeper 41 = .ok (.iload_n 1, 1) := by decide +kernel
theorem d_Mod_keeper_42 : decode b_Mod_keeper 42 = .ok (.if_icmp .ne 5, 3) := by decide +kernel
theorem d_Mod_keeper_45 : decode b_Mod_keeper 45 = .ok (.iload_n 3, 1) := by decide +kernel
theorem d_Mod_keeper_46 : decode b_Mod_keeper 46 = .ok (.ireturn, 1) := by decide +kernel
theorem d_Mod_keeper_47 : decode b_Mod_keeper 47 = .ok (.iinc 3 1, 3) := by decide +kernel
theorem d_Mod_keeper_50 : decode b_Mod_keeper 50 = .ok (.goto (-25), 3) := by decide +kernel
theorem d_Mod_keeper_53 : decode b_Mod_keeper 53 = .ok (.iconst (-1), 1) := by decide +kernel
theorem d_Mod_keeper_54 : decode b_Mod_keeper 54 = .ok (.ireturn, 1) := by decide +kernel
noncomputable def f_Mod_keeper_L25 (z : Nat → Nat) (σ : Mm) (o : Nat) (v1 : Int32) (v2 : Int32) (s25 : Int32) : Option ((Int32) ⊕ ((Int32 × Mm) ⊕ (Unit))) :=
  (mm_ldI (σ.1 (o + 2)) (z (o + 2)) (1 : Int32)).bind fun x31 =>
  if x31 ≤ s25 then (
    some (.inr (.inr ()))
  ) else (
    (f_Mod_heldAt z σ o s25 v2).bind fun q38 =>
    if q38 = v1 then (
      some (.inr (.inl (s25, σ)))
    ) else (
      mm_lt (s25 + (1 : Int32)) fun x47 =>
      some (.inl x47)
    )
  )
noncomputable def f_Mod_keeper (z : Nat → Nat) (σ : Mm) (o : Nat) (p1 : Int32) (p2 : Int32) : Option (Int32 × Mm) :=
  mm_lt (kI σ o 0 (0 : Int32)) fun m2 =>
  (f_Mod_isSurname z m2 o p1).bind fun q7 =>
  if q7 = 0 then (
    some (((-1) : Int32), m2)
  ) else (
    (f_Mod_isSpring z m2 o p2).bind fun q15 =>
    if q15 = 0 then (
      some (((-1) : Int32), m2)
    ) else (
      (mm_lp (f_Mod_keeper_L25 z m2 o p1 p2) (0 : Int32)).bind (Sum.elim (fun r9 => some r9) (fun x25_ =>
        some (((-1) : Int32), m2)))
    )
  )
set_option maxHeartbeats 4000000 in
set_option maxRecDepth 100000 in
theorem c_Mod_keeper (l : Launch) {L : Ly} (hg : gd_ok L) {σ : Mm} {o : Nat} {p1 : Int32} {p2 : Int32} (k_o_0 : ly_k L o = 11) {res : Int32 × Mm} (hf0 : f_Mod_keeper (ly_z L) σ o p1 p2 = some res) : CtI l y_Mod_keeper b_Mod_keeper 4 (some .int) rm_Mod_keeper L [.ref (ly_a L o), .int p1, .int p2] σ res.1 res.2 := by
  refine ct_i hg (by decide) (Nat.le_of_ble_eq_true rfl) ?_
  intro E A Q hE C hN
  subst hE
  have k_o_2 : ly_k L (o + 2) = 20 := gd_Mod_s hg k_o_0
  unfold f_Mod_keeper at hf0
  show GW E L A 4 0 0 Q σ 0 [(0, .ref (ly_a L o)), (1, .int p1), (2, .int p2)] []
  refine gw_aload_n C 0 d_Mod_keeper_0 rfl rfl ?_
  refine gw_iconst C (0 : Int32) d_Mod_keeper_1 (by decide) ?_
  obtain ⟨m2, em2, hf0⟩ := mx_lt hf0
  refine gw_putI t_Mod C 0 d_Mod_keeper_2 k_o_0 (by decide) i_Mod rfl rfl (by decide) qw_1165 rfl rfl t_Mod_ok n_Mod rfl (t_Mod_ok 0 (by decide)) rfl rfl em2 ?_
  refine gw_aload_n C 0 d_Mod_keeper_5 rfl rfl ?_
  refine gw_iload_n C 1 d_Mod_keeper_6 rfl rfl ?_
  obtain ⟨q7, hq7, hf0⟩ := mx_bd hf0
  refine gw_callI C (c_Mod_isSurname _ hg k_o_0 hq7) d_Mod_keeper_7 1 qw_1394 qw_1396 qs_54 qw_12 qw_1397 k_o_0 (by decide) rfl hd_Mod_isSurname rfl rfl (Nat.le_of_ble_eq_true rfl) ⟨rfl, rfl, Nat.le_of_ble_eq_true rfl, Nat.le_of_ble_eq_true rfl⟩ ⟨Nat.zero_le _, Nat.zero_le _⟩ ?_
  refine gw_if_eq C 21 d_Mod_keeper_10 (by decide) (fun hc => ?_) (fun hc => ?_)
  · replace hf0 := mx_t hc hf0
    refine gw_iconst C ((-1) : Int32) d_Mod_keeper_21 (by decide) ?_
    exact en_i hN hf0 d_Mod_keeper_22
  · replace hf0 := mx_f hc hf0
    refine gw_aload_n C 0 d_Mod_keeper_13 rfl rfl ?_
    refine gw_iload_n C 2 d_Mod_keeper_14 rfl rfl ?_
    obtain ⟨q15, hq15, hf0⟩ := mx_bd hf0
    refine gw_callI C (c_Mod_isSpring _ hg k_o_0 hq15) d_Mod_keeper_15 1 qw_1438 qw_1440 qs_60 qw_12 qw_1441 k_o_0 (by decide) rfl hd_Mod_isSpring rfl rfl (Nat.le_of_ble_eq_true rfl) ⟨rfl, rfl, Nat.le_of_ble_eq_true rfl, Nat.le_of_ble_eq_true rfl⟩ ⟨Nat.zero_le _, Nat.zero_le _⟩ ?_
    refine gw_if_ne C 23 d_Mod_keeper_18 (by decide) (fun hc => ?_) (fun hc => ?_)
    · replace hf0 := mx_f hc hf0
      refine gw_iconst C (0 : Int32) d_Mod_keeper_23 (by decide) ?_
      refine gw_istore_n C [(3, .int (0 : Int32)), (0, .ref (ly_a L o)), (1, .int p1), (2, .int p2)] d_Mod_keeper_24 rfl (by decide) rfl ?_
      obtain ⟨q25, hq25, hf0⟩ := mx_bd hf0
      have hk25 : ∀ x25_, q25 = .inr x25_ → GW E L A 4 0 0 Q m2 53 [] [] := by
        intro x25_ hx9
        subst hx9
        replace hf0 := mx_sr hf0
        refine gw_iconst C ((-1) : Int32) d_Mod_keeper_53 (by decide) ?_
        exact en_i hN hf0 d_Mod_keeper_54
      refine gw_sub [1, 2, 3, 0] (lv' := [(0, .ref (ly_a L o)), (1, .int p1), (2, .int p2), (3, .int (0 : Int32))]) rfl ?_
      refine mm_rule hq25 (P := fun (s25 : Int32) => GW E L A 4 0 0 Q m2 25 [(0, .ref (ly_a L o)), (1, .int p1), (2, .int p2), (3, .int s25)] []) ?_
      intro s25 ih25 hx25 ⟨w25, hb25⟩
      have hf1 := hb25
      unfold f_Mod_keeper_L25 at hf1
      refine gw_iload_n C 3 d_Mod_keeper_25 rfl rfl ?_
      refine gw_aload_n C 0 d_Mod_keeper_26 rfl rfl ?_
      refine gw_getA C 6 d_Mod_keeper_27 k_o_0 (by decide) i_Mod rfl rfl (by decide) qw_1171 rfl rfl (o + 2) rfl ?_
      refine gw_iconst C (1 : Int32) d_Mod_keeper_30 (by decide) ?_
      obtain ⟨x31, hx31, hf1⟩ := mx_bd hf1
      obtain ⟨gx31, ex31⟩ := mx_ldI hx31
      refine gw_iald C d_Mod_keeper_31 k_o_2 gx31 ex31 ?_
      refine gw_icmp_ge C 53 d_Mod_keeper_32 (by decide) (fun hc => ?_) (fun hc => ?_)
      · replace hf1 := mx_t hc hf1
        exact gw_go [] (hk25 () (hx25 _ (hb25.trans hf1.symm)).symm) rfl
      · replace hf1 := mx_f hc hf1
        refine gw_aload_n C 0 d_Mod_keeper_35 rfl rfl ?_
        refine gw_iload_n C 3 d_Mod_keeper_36 rfl rfl ?_
        refine gw_iload_n C 2 d_Mod_keeper_37 rfl rfl ?_
        obtain ⟨q38, hq38, hf1⟩ := mx_bd hf1
        refine gw_callI C (c_Mod_heldAt _ hg k_o_0 hq38) d_Mod_keeper_38 2 qw_1442 qw_1444 qs_61 qw_12 qw_1445 k_o_0 (by decide) rfl hd_Mod_heldAt rfl rfl (Nat.le_of_ble_eq_true rfl) ⟨rfl, rfl, Nat.le_of_ble_eq_true rfl, Nat.le_of_ble_eq_true rfl⟩ ⟨Nat.zero_le _, Nat.zero_le _⟩ ?_
        refine gw_iload_n C 1 d_Mod_keeper_41 rfl rfl ?_
        refine gw_icmp_ne C 47 d_Mod_keeper_42 (by decide) (fun hc => ?_) (fun hc => ?_)
        · replace hf1 := mx_f hc hf1
          obtain ⟨x47, ex47, hf1⟩ := mx_lt hf1
          refine gw_iinc C 3 [(3, .int x47), (0, .ref (ly_a L o)), (1, .int p1), (2, .int p2)] d_Mod_keeper_47 rfl (by rw [ex47]; rfl) (by decide) rfl ?_
          refine gw_goto C 25 d_Mod_keeper_50 (by decide) ?_
          exact gw_go [1, 2, 3, 0] (ih25 x47 (hb25.trans hf1.symm)) rfl
        · replace hf1 := mx_t hc hf1
          refine gw_iload_n C 3 d_Mod_keeper_45 rfl rfl ?_
          have hr25 := hx25 _ (hb25.trans hf1.symm)
          subst hr25
          replace hf0 := mx_sl hf0
          exact en_i hN hf0 d_Mod_keeper_46
    · replace hf0 := mx_t hc hf0
      refine gw_iconst C ((-1) : Int32) d_Mod_keeper_21 (by decide) ?_
      exact en_i hN hf0 d_Mod_keeper_22

/-! NameHatModel.isPawned(I)Z -/
abbrev b_Mod_isPawned : ByteArray := prog_14_method_45_code
def y_Mod_isPawned : MethodName := ⟨"NameHatModel", "isPawned", "(I)Z"⟩
abbrev rm_Mod_isPawned : Room := { frames := 0, cells := 0, slots := 0, locals := 0 }
theorem hd_Mod_isPawned : y_Mod_isPawned.cls ≠ "java/lang/invoke/MethodHandle" ∧ y_Mod_isPawned.cls ≠ "java/lang/invoke/VarHandle" ∧ (parseMethodDescriptor y_Mod_isPawned.desc).map (fun d => d.parameters.length) = some 1 := by decide +kernel
theorem d_Mod_isPawned_0 : decode b_Mod_isPawned 0 = .ok (.aload_n 0, 1) := by decide +kernel
theorem d_Mod_isPawned_1 : decode b_Mod_isPawned 1 = .ok (.getfield 33, 3) := by decide +kernel
theorem d_Mod_isPawned_4 : decode b_Mod_isPawned 4 = .ok (.bipush 123, 2) := by decide +kernel
theorem d_Mod_isPawned_6 : decode b_Mod_isPawned 6 = .ok (.iload_n 1, 1) := by decide +kernel
theorem d_Mod_isPawned_7 : decode b_Mod_isPawned 7 = .ok (.iadd, 1) := by decide +kernel
theorem d_Mod_isPawned_8 : decode b_Mod_isPawned 8 = .ok (.iaload, 1) := by decide +kernel
theorem d_Mod_isPawned_9 : decode b_Mod_isPawned 9 = .ok (.ifCond .lt 28, 3) := by decide +kernel
theorem d_Mod_isPawned_12 : decode b_Mod_isPawned 12 = .ok (.aload_n 0, 1) := by decide +kernel
theorem d_Mod_isPawned_13 : decode b_Mod_isPawned 13 = .ok (.getfield 33, 3) := by decide +kernel
theorem d_Mod_isPawned_16 : decode b_Mod_isPawned 16 = .ok (.bipush 15, 2) := by decide +kernel
theorem d_Mod_isPawned_18 : decode b_Mod_isPawned 18 = .ok (.aload_n 0, 1) := by decide +kernel
theorem d_Mod_isPawned_19 : decode b_Mod_isPawned 19 = .ok (.getfield 33, 3) := by decide +kernel
theorem d_Mod_isPawned_22 : decode b_Mod_isPawned 22 = .ok (.bipush 123, 2) := by decide +kernel
theorem d_Mod_isPawned_24 : decode b_Mod_isPawned 24 = .ok (.iload_n 1, 1) := by decide +kernel
theorem d_Mod_isPawned_25 : decode b_Mod_isPawned 25 = .ok (.iadd, 1) := by decide +kernel
theorem d_Mod_isPawned_26 : decode b_Mod_isPawned 26 = .ok (.iaload, 1) := by decide +kernel
theorem d_Mod_isPawned_27 : decode b_Mod_isPawned 27 = .ok (.iadd, 1) := by decide +kernel
theorem d_Mod_isPawned_28 : decode b_Mod_isPawned 28 = .ok (.iaload, 1) := by decide +kernel
theorem d_Mod_isPawned_29 : decode b_Mod_isPawned 29 = .ok (.iconst 2, 1) := by decide +kernel
theorem d_Mod_isPawned_30 : decode b_Mod_isPawned 30 = .ok (.if_icmp .ne 7, 3) := by decide +kernel
theorem d_Mod_isPawned_33 : decode b_Mod_isPawned 33 = .ok (.iconst 1, 1) := by decide +kernel
theorem d_Mod_isPawned_34 : decode b_Mod_isPawned 34 = .ok (.goto 4, 3) := by decide +kernel
theorem d_Mod_isPawned_37 : decode b_Mod_isPawned 37 = .ok (.iconst 0, 1) := by decide +kernel
theorem d_Mod_isPawned_38 : decode b_Mod_isPawned 38 = .ok (.ireturn, 1) := by decide +kernel
noncomputable def f_Mod_isPawned (z : Nat → Nat) (σ : Mm) (o : Nat) (p1 : Int32) : Option (Int32) :=
  (mm_ldI (σ.1 (o + 2)) (z (o + 2)) ((123 : Int32) + p1)).bind fun x8 =>
  if x8 < 0 then (
    some (0 : Int32)
  ) else (
    (mm_ldI (σ.1 (o + 2)) (z (o + 2)) ((123 : Int32) + p1)).bind fun x26 =>
    (mm_ldI (σ.1 (o + 2)) (z (o + 2)) ((15 : Int32) + x26)).bind fun x28 =>
    if x28 = (2 : Int32) then (
      some (1 : Int32)
    ) else (
      some (0 : Int32)
    )
  )
set_option maxHeartbeats 4000000 in
set_option maxRecDepth 100000 in
theorem c_Mod_isPawned (l : Launch) {L : Ly} (hg : gd_ok L) {σ : Mm} {o : Nat} {p1 : Int32} (k_o_0 : ly_k L o = 11) {res : Int32} (hf0 : f_Mod_isPawned (ly_z L) σ o p1 = some res) : CtI l y_Mod_isPawned b_Mod_isPawned 2 (some .boolean) rm_Mod_isPawned L [.ref (ly_a L o), .int p1] σ res σ := by
  refine ct_z hg (by decide) (Nat.le_of_ble_eq_true rfl) ?_
  intro E A Q hE C hN
  subst hE
  have k_o_2 : ly_k L (o + 2) = 20 := gd_Mod_s hg k_o_0
  unfold f_Mod_isPawned at hf0
  show GW E L A 2 0 0 Q σ 0 [(0, .ref (ly_a L o)), (1, .int p1)] []
  refine gw_aload_n C 0 d_Mod_isPawned_0 rfl rfl ?_
  refine gw_getA C 6 d_Mod_isPawned_1 k_o_0 (by decide) i_Mod rfl rfl (by decide) qw_1171 rfl rfl (o + 2) rfl ?_
  refine gw_bipush C (123 : Int32) d_Mod_isPawned_4 (by decide) ?_
  refine gw_iload_n C 1 d_Mod_isPawned_6 rfl rfl ?_
  refine gw_iadd C d_Mod_isPawned_7 ?_
  obtain ⟨x8, hx8, hf0⟩ := mx_bd hf0
  obtain ⟨gx8, ex8⟩ := mx_ldI hx8
  refine gw_iald C d_Mod_isPawned_8 k_o_2 gx8 ex8 ?_
  refine gw_if_lt C 37 d_Mod_isPawned_9 (by decide) (fun hc => ?_) (fun hc => ?_)
  · replace hf0 := mx_t hc hf0
    refine gw_iconst C (0 : Int32) d_Mod_isPawned_37 (by decide) ?_
    exact en_zp hN (Or.inl rfl) hf0 d_Mod_isPawned_38
  · replace hf0 := mx_f hc hf0
    refine gw_aload_n C 0 d_Mod_isPawned_12 rfl rfl ?_
    refine gw_getA C 6 d_Mod_isPawned_13 k_o_0 (by decide) i_Mod rfl rfl (by decide) qw_1171 rfl rfl (o + 2) rfl ?_
    refine gw_bipush C (15 : Int32) d_Mod_isPawned_16 (by decide) ?_
    refine gw_aload_n C 0 d_Mod_isPawned_18 rfl rfl ?_
    refine gw_getA C 6 d_Mod_isPawned_19 k_o_0 (by decide) i_Mod rfl rfl (by decide) qw_1171 rfl rfl (o + 2) rfl ?_
    refine gw_bipush C (123 : Int32) d_Mod_isPawned_22 (by decide) ?_
    refine gw_iload_n C 1 d_Mod_isPawned_24 rfl rfl ?_
    refine gw_iadd C d_Mod_isPawned_25 ?_
    obtain ⟨x26, hx26, hf0⟩ := mx_bd hf0
    obtain ⟨gx26, ex26⟩ := mx_ldI hx26
    refine gw_iald C d_Mod_isPawned_26 k_o_2 gx26 ex26 ?_
    refine gw_iadd C d_Mod_isPawned_27 ?_
    obtain ⟨x28, hx28, hf0⟩ := mx_bd hf0
    obtain ⟨gx28, ex28⟩ := mx_ldI hx28
    refine gw_iald C d_Mod_isPawned_28 k_o_2 gx28 ex28 ?_
    refine gw_iconst C (2 : Int32) d_Mod_isPawned_29 (by decide) ?_
    refine gw_icmp_ne C 37 d_Mod_isPawned_30 (by decide) (fun hc => ?_) (fun hc => ?_)
    · replace hf0 := mx_f hc hf0
      refine gw_iconst C (0 : Int32) d_Mod_isPawned_37 (by decide) ?_
      exact en_zp hN (Or.inl rfl) hf0 d_Mod_isPawned_38
    · replace hf0 := mx_t hc hf0
      refine gw_iconst C (1 : Int32) d_Mod_isPawned_33 (by decide) ?_
      refine gw_goto C 38 d_Mod_isPawned_34 (by decide) ?_
      exact en_zp hN (Or.inr rfl) hf0 d_Mod_isPawned_38

/-! NameHatModel.exchange(II)V -/
abbrev b_Mod_exchange : ByteArray := prog_14_method_46_code
def y_Mod_exchange : MethodName := ⟨"NameHatModel", "exchange", "(II)V"⟩
abbrev rm_Mod_exchange : Room := { frames := 0, cells := 0, slots := 0, locals := 0 }
theorem hd_Mod_exchange : y_Mod_exchange.cls ≠ "java/lang/invoke/MethodHandle" ∧ y_Mod_exchange.cls ≠ "java/lang/invoke/VarHandle" ∧ (parseMethodDescriptor y_Mod_exchange.desc).map (fun d => d.parameters.length) = some 2 := by decide +kernel
theorem d_Mod_exchange_0 : decode b_Mod_exchange 0 = .ok (.aload_n 0, 1) := by decide +kernel
theorem d_Mod_exchange_1 : decode b_Mod_exchange 1 = .ok (.getfield 33, 3) := by decide +kernel
theorem d_Mod_exchange_4 : decode b_Mod_exchange 4 = .ok (.bipush 123, 2) := by decide +kernel
theorem d_Mod_exchange_6 : decode b_Mod_exchange 6 = .ok (.iload_n 1, 1) := by decide +kernel
theorem d_Mod_exchange_7 : decode b_Mod_exchange 7 = .ok (.iadd, 1) := by decide +kernel
theorem d_Mod_exchange_8 : decode b_Mod_exchange 8 = .ok (.iaload, 1) := by decide +kernel
theorem d_Mod_exchange_9 : decode b_Mod_exchange 9 = .ok (.istore_n 3, 1) := by decide +kernel
theorem d_Mod_exchange_10 : decode b_Mod_exchange 10 = .ok (.aload_n 0, 1) := by decide +kernel
theorem d_Mod_exchange_11 : decode b_Mod_exchange 11 = .ok (.getfield 33, 3) := by decide +kernel
theorem d_Mod_exchange_14 : decode b_Mod_exchange 14 = .ok (.bipush 123, 2) := by decide +kernel
theorem d_Mod_exchange_16 : decode b_Mod_exchange 16 = .ok (.iload_n 1, 1) := by decide +kernel
theorem d_Mod_exchange_17 : decode b_Mod_exchange 17 = .ok (.iadd, 1) := by decide +kernel
theorem d_Mod_exchange_18 : decode b_Mod_exchange 18 = .ok (.aload_n 0, 1) := by decide +kernel
theorem d_Mod_exchange_19 : decode b_Mod_exchange 19 = .ok (.getfield 33, 3) := by decide +kernel
theorem d_Mod_exchange_22 : decode b_Mod_exchange 22 = .ok (.bipush 123, 2) := by decide +kernel
theorem d_Mod_exchange_24 : decode b_Mod_exchange 24 = .ok (.iload_n 2, 1) := by decide +kernel
theorem d_Mod_exchange_25 : decode b_Mod_exchange 25 = .ok (.iadd, 1) := by decide +kernel
theorem d_Mod_exchange_26 : decode b_Mod_exchange 26 = .ok (.iaload, 1) := by decide +kernel
theorem d_Mod_exchange_27 : decode b_Mod_exchange 27 = .ok (.iastore, 1) := by decide +kernel
theorem d_Mod_exchange_28 : decode b_Mod_exchange 28 = .ok (.aload_n 0, 1) := by decide +kernel
theorem d_Mod_exchange_29 : decode b_Mod_exchange 29 = .ok (.getfield 33, 3) := by decide +kernel
theorem d_Mod_exchange_32 : decode b_Mod_exchange 32 = .ok (.bipush 123, 2) := by decide +kernel
theorem d_Mod_exchange_34 : decode b_Mod_exchange 34 = .ok (.iload_n 2, 1) := by decide +kernel
theorem d_Mod_exchange_35 : decode b_Mod_exchange 35 = .ok (.iadd, 1) := by decide +kernel
theorem d_Mod_exchange_36 : decode b_Mod_exchange 36 = .ok (.iload_n 3, 1) := by decide +kernel
theorem d_Mod_exchange_37 : decode b_Mod_exchange 37 = .ok (.iastore, 1) := by decide +kernel
theorem d_Mod_exchange_38 : decode b_Mod_exchange 38 = .ok (.return_, 1) := by decide +kernel
noncomputable def f_Mod_exchange (z : Nat → Nat) (σ : Mm) (o : Nat) (p1 : Int32) (p2 : Int32) : Option (Mm) :=
  (mm_ldI (σ.1 (o + 2)) (z (o + 2)) ((123 : Int32) + p1)).bind fun x8 =>
  (mm_ldI (σ.1 (o + 2)) (z (o + 2)) ((123 : Int32) + p2)).bind fun x26 =>
  (mm_stI σ (o + 2) (z (o + 2)) ((123 : Int32) + p1) x26).bind fun m27 =>
  (mm_stI m27 (o + 2) (z (o + 2)) ((123 : Int32) + p2) x8).bind fun m37 =>
  some m37
set_option maxHeartbeats 4000000 in
set_option maxRecDepth 100000 in
theorem c_Mod_exchange (l : Launch) {L : Ly} (hg : gd_ok L) {σ : Mm} {o : Nat} {p1 : Int32} {p2 : Int32} (k_o_0 : ly_k L o = 11) {res : Mm} (hf0 : f_Mod_exchange (ly_z L) σ o p1 p2 = some res) : CtV l y_Mod_exchange b_Mod_exchange 4 (none) rm_Mod_exchange L [.ref (ly_a L o), .int p1, .int p2] σ res := by
  refine ct_v hg (by decide) (Nat.le_of_ble_eq_true rfl) ?_
  intro E A Q hE C hN
  subst hE
  have k_o_2 : ly_k L (o + 2) = 20 := gd_Mod_s hg k_o_0
  unfold f_Mod_exchange at hf0
  show GW E L A 4 0 0 Q σ 0 [(0, .ref (ly_a L o)), (1, .int p1), (2, .int p2)] []
  refine gw_aload_n C 0 d_Mod_exchange_0 rfl rfl ?_
  refine gw_getA C 6 d_Mod_exchange_1 k_o_0 (by decide) i_Mod rfl rfl (by decide) qw_1171 rfl rfl (o + 2) rfl ?_
  refine gw_bipush C (123 : Int32) d_Mod_exchange_4 (by decide) ?_
  refine gw_iload_n C 1 d_Mod_exchange_6 rfl rfl ?_
  refine gw_iadd C d_Mod_exchange_7 ?_
  obtain ⟨x8, hx8, hf0⟩ := mx_bd hf0
  obtain ⟨gx8, ex8⟩ := mx_ldI hx8
  refine gw_iald C d_Mod_exchange_8 k_o_2 gx8 ex8 ?_
  refine gw_istore_n C [(3, .int x8), (0, .ref (ly_a L o)), (1, .int p1), (2, .int p2)] d_Mod_exchange_9 rfl (by decide) rfl ?_
  refine gw_aload_n C 1 d_Mod_exchange_10 rfl rfl ?_
  refine gw_getA C 6 d_Mod_exchange_11 k_o_0 (by decide) i_Mod rfl rfl (by decide) qw_1171 rfl rfl (o + 2) rfl ?_
  refine gw_bipush C (123 : Int32) d_Mod_exchange_14 (by decide) ?_
  refine gw_iload_n C 2 d_Mod_exchange_16 rfl rfl ?_
  refine gw_iadd C d_Mod_exchange_17 ?_
  refine gw_aload_n C 1 d_Mod_exchange_18 rfl rfl ?_
  refine gw_getA C 6 d_Mod_exchange_19 k_o_0 (by decide) i_Mod rfl rfl (by decide) qw_1171 rfl rfl (o + 2) rfl ?_
  refine gw_bipush C (123 : Int32) d_Mod_exchange_22 (by decide) ?_
  refine gw_iload_n C 3 d_Mod_exchange_24 rfl rfl ?_
  refine gw_iadd C d_Mod_exchange_25 ?_
  obtain ⟨x26, hx26, hf0⟩ := mx_bd hf0
  obtain ⟨gx26, ex26⟩ := mx_ldI hx26
  refine gw_iald C d_Mod_exchange_26 k_o_2 gx26 ex26 ?_
  obtain ⟨m27, hm27, hf0⟩ := mx_bd hf0
  obtain ⟨gm27, em27⟩ := mx_stI hm27
  refine gw_iast C d_Mod_exchange_27 k_o_2 gm27 em27 ?_
  refine gw_aload_n C 1 d_Mod_exchange_28 rfl rfl ?_
  refine gw_getA C 6 d_Mod_exchange_29 k_o_0 (by decide) i_Mod rfl rfl (by decide) qw_1171 rfl rfl (o + 2) rfl ?_
  refine gw_bipush C (123 : Int32) d_Mod_exchange_32 (by decide) ?_
  refine gw_iload_n C 3 d_Mod_exchange_34 rfl rfl ?_
  refine gw_iadd C d_Mod_exchange_35 ?_
  refine gw_iload_n C 0 d_Mod_exchange_36 rfl rfl ?_
  obtain ⟨m37, hm37, hf0⟩ := mx_bd hf0
  obtain ⟨gm37, em37⟩ := mx_stI hm37
  refine gw_iast C d_Mod_exchange_37 k_o_2 gm37 em37 ?_
  exact en_v hN hf0 d_Mod_exchange_38

/-! NameHatModel.swap(II)Z -/
abbrev b_Mod_swap : ByteArray := prog_14_method_47_code
def y_Mod_swap : MethodName := ⟨"NameHatModel", "swap", "(II)Z"⟩
abbrev rm_Mod_swap : Room := { frames := 2, cells := 0, slots := 0, locals := 43 }
theorem hd_Mod_swap : y_Mod_swap.cls ≠ "java/lang/invoke/MethodHandle" ∧ y_Mod_swap.cls ≠ "java/lang/invoke/VarHandle" ∧ (parseMethodDescriptor y_Mod_swap.desc).map (fun d => d.parameters.length) = some 2 := by decide +kernel
theorem d_Mod_swap_0 : decode b_Mod_swap 0 = .ok (.aload_n 0, 1) := by decide +kernel
theorem d_Mod_swap_1 : decode b_Mod_swap 1 = .ok (.iconst 0, 1) := by decide +kernel
theorem d_Mod_swap_2 : decode b_Mod_swap 2 = .ok (.putfield 1, 3) := by decide +kernel
theorem d_Mod_swap_5 : decode b_Mod_swap 5 = .ok (.aload_n 0, 1) := by decide +kernel
theorem d_Mod_swap_6 : decode b_Mod_swap 6 = .ok (.iload_n 1, 1) := by decide +kernel
theorem d_Mod_swap_7 : decode b_Mod_swap 7 = .ok (.invokevirtual 252, 3) := by decide +kernel
theorem d_Mod_swap_10 : decode b_Mod_swap 10 = .ok (.ifCond .eq 56, 3) := by decide +kernel
theorem d_Mod_swap_13 : decode b_Mod_swap 13 = .ok (.aload_n 0, 1) := by decide +kernel
theorem d_Mod_swap_14 : decode b_Mod_swap 14 = .ok (.iload_n 2, 1) := by decide +kernel
theorem d_Mod_swap_15 : decode b_Mod_swap 15 = .ok (.invokevirtual 252, 3) := by decide +kernel
theorem d_Mod_swap_18 : decode b_Mod_swap 18 = .ok (.ifCond .eq 48, 3) := by decide +kernel
theorem d_Mod_swap_21 : decode b_Mod_swap 21 = .ok (.iload_n 1, 1) := by decide +kernel
theorem d_Mod_swap_22 : decode b_Mod_swap 22 = .ok (.iload_n 2, 1) := by decide +kernel
theorem d_Mod_swap_23 : decode b_Mod_swap 23 = .ok (.if_icmp .eq 43, 3) := by decide +kernel
theorem d_Mod_swap_26 : decode b_Mod_swap 26 = .ok (.aload_n 0, 1) := by decide +kernel
theorem d_Mod_swap_27 : decode b_Mod_swap 27 = .ok (.getfield 33, 3) := by decide +kernel
theorem d_Mod_swap_30 : decode b_Mod_swap 30 = .ok (.bipush 123, 2) := by decide +kernel
theorem d_Mod_swap_32 : decode b_Mod_swap 32 = .ok (.iload_n 1, 1) := by decide +kernel
theorem d_Mod_swap_33 : decode b_Mod_swap 33 = .ok (.iadd, 1) := by decide +kernel
theorem d_Mod_swap_34 : decode b_Mod_swap 34 = .ok (.iaload, 1) := by decide +kernel
theorem d_Mod_swap_35 : decode b_Mod_swap 35 = .ok (.ifCond .lt 31, 3) := by decide +kernel
theorem d_Mod_swap_38 : decode b_Mod_swap 38 = .ok (.aload_n 0, 1) := by decide +kernel
theorem d_Mod_swap_39 : decode b_Mod_swap 39 = .ok (.getfield 33, 3) := by decide +kernel
theorem d_Mod_swap_42 : decode b_Mod_swap 42 = .ok (.bipush 123, 2) := by decide +kernel
theorem d_Mod_swap_44 : decode b_Mod_swap 44 = .ok (.iload_n 2, 1) := by decide +kernel
theorem d_Mod_swap_45 : decode b_Mod_swap 45 = .ok (.iadd, 1) := by decide +kernel
theorem d_Mod_swap_46 : decode b_Mod_swap 46 = .ok (.iaload, 1) := by decide +kernel
theorem d_Mod_swap_47 : decode b_Mod_swap 47 = .ok (.ifCond .lt 19, 3) := by decide +kernel
theorem d_Mod_swap_50 : decode b_Mod_swap 50 = .ok (.aload_n 0, 1) := by decide +kernel
theorem d_Mod_swap_51 : decode b_Mod_swap 51 = .ok (.iload_n 1, 1) := by decide +kernel
theorem d_Mod_swap_52 : decode b_Mod_swap 52 = .ok (.invokevirtual 274, 3) := by decide +kernel
theorem d_Mod_swap_55 : decode b_Mod_swap 55 = .ok (.ifCond .ne 11, 3) := by decide +kernel
theorem d_Mod_swap_58 : decode b_Mod_swap 58 = .ok (.aload_n 0, 1) := by decide +kernel
theorem d_Mod_swap_59 : decode b_Mod_swap 59 = .ok (.iload_n 2, 1) := by decide +kernel
theorem d_Mod_swap_60 : decode b_Mod_swap 60 = .ok (.invokevirtual 274, 3) := by decide +kernel
theorem d_Mod_swap_63 : decode b_Mod_swap 63 = .ok (.ifCond .eq 5, 3) := by decide +kernel
theorem d_Mod_swap_66 : decode b_Mod_swap 66 = .ok (.iconst 0, 1) := by decide +kernel
theorem d_Mod_swap_67 : decode b_Mod_swap 67 = .ok (.ireturn, 1) := by decide +kernel
theorem d_Mod_swap_68 : decode b_Mod_swap 68 = .ok (.aload_n 0, 1) := by decide +kernel
theorem d_Mod_swap_69 : decode b_Mod_swap 69 = .ok (.iload_n 1, 1) := by decide +kernel
theorem d_Mod_swap_70 : decode b_Mod_swap 70 = .ok (.iload_n 2, 1) := by decide +kernel
theorem d_Mod_swap_71 : decode b_Mod_swap 71 = .ok (.invokevirtual 277, 3) := by decide +kernel
theorem d_Mod_swap_74 : decode b_Mod_swap 74 = .ok (.iconst 1, 1) := by decide +kernel
theorem d_Mod_swap_75 : decode b_Mod_swap 75 = .ok (.ireturn, 1) := by decide +kernel
noncomputable def f_Mod_swap (z : Nat → Nat) (σ : Mm) (o : Nat) (p1 : Int32) (p2 : Int32) : Option (Int32 × Mm) :=
  mm_lt (kI σ o 0 (0 : Int32)) fun m2 =>
  (f_Mod_isHouse z m2 o p1).bind fun q7 =>
  if q7 = 0 then (
    some ((0 : Int32), m2)
  ) else (
    (f_Mod_isHouse z m2 o p2).bind fun q15 =>
    if q15 = 0 then (
      some ((0 : Int32), m2)
    ) else (
      if p1 = p2 then (
        some ((0 : Int32), m2)
      ) else (
        (mm_ldI (m2.1 (o + 2)) (z (o + 2)) ((123 : Int32) + p1)).bind fun x34 =>
        if x34 < 0 then (
          some ((0 : Int32), m2)
        ) else (
          (mm_ldI (m2.1 (o + 2)) (z (o + 2)) ((123 : Int32) + p2)).bind fun x46 =>
          if x46 < 0 then (
            some ((0 : Int32), m2)
          ) else (
            (f_Mod_isPawned z m2 o p1).bind fun q52 =>
            if q52 = 0 then (
              (f_Mod_isPawned z m2 o p2).bind fun q60 =>
              if q60 = 0 then (
                (f_Mod_exchange z m2 o p1 p2).bind fun q71 =>
                some ((1 : Int32), q71)
              ) else (
                some ((0 : Int32), m2)
              )
            ) else (
              some ((0 : Int32), m2)
            )
          )
        )
      )
    )
  )
set_option maxHeartbeats 4000000 in
set_option maxRecDepth 100000 in
theorem c_Mod_swap (l : Launch) {L : Ly} (hg : gd_ok L) {σ : Mm} {o : Nat} {p1 : Int32} {p2 : Int32} (k_o_0 : ly_k L o = 11) {res : Int32 × Mm} (hf0 : f_Mod_swap (ly_z L) σ o p1 p2 = some res) : CtI l y_Mod_swap b_Mod_swap 3 (some .boolean) rm_Mod_swap L [.ref (ly_a L o), .int p1, .int p2] σ res.1 res.2 := by
  refine ct_z hg (by decide) (Nat.le_of_ble_eq_true rfl) ?_
  intro E A Q hE C hN
  subst hE
  have k_o_2 : ly_k L (o + 2) = 20 := gd_Mod_s hg k_o_0
  unfold f_Mod_swap at hf0
  show GW E L A 3 0 0 Q σ 0 [(0, .ref (ly_a L o)), (1, .int p1), (2, .int p2)] []
  refine gw_aload_n C 0 d_Mod_swap_0 rfl rfl ?_
  refine gw_iconst C (0 : Int32) d_Mod_swap_1 (by decide) ?_
  obtain ⟨m2, em2, hf0⟩ := mx_lt hf0
  refine gw_putI t_Mod C 0 d_Mod_swap_2 k_o_0 (by decide) i_Mod rfl rfl (by decide) qw_1165 rfl rfl t_Mod_ok n_Mod rfl (t_Mod_ok 0 (by decide)) rfl rfl em2 ?_
  refine gw_aload_n C 0 d_Mod_swap_5 rfl rfl ?_
  refine gw_iload_n C 1 d_Mod_swap_6 rfl rfl ?_
  obtain ⟨q7, hq7, hf0⟩ := mx_bd hf0
  refine gw_callI C (c_Mod_isHouse _ hg k_o_0 hq7) d_Mod_swap_7 1 qw_1410 qw_1412 qs_57 qw_12 qw_1413 k_o_0 (by decide) rfl hd_Mod_isHouse rfl rfl (Nat.le_of_ble_eq_true rfl) ⟨rfl, rfl, Nat.le_of_ble_eq_true rfl, Nat.le_of_ble_eq_true rfl⟩ ⟨Nat.zero_le _, Nat.zero_le _⟩ ?_
  refine gw_if_eq C 66 d_Mod_swap_10 (by decide) (fun hc => ?_) (fun hc => ?_)
  · replace hf0 := mx_t hc hf0
    refine gw_iconst C (0 : Int32) d_Mod_swap_66 (by decide) ?_
    exact en_z hN (Or.inl rfl) hf0 d_Mod_swap_67
  · replace hf0 := mx_f hc hf0
    refine gw_aload_n C 0 d_Mod_swap_13 rfl rfl ?_
    refine gw_iload_n C 2 d_Mod_swap_14 rfl rfl ?_
    obtain ⟨q15, hq15, hf0⟩ := mx_bd hf0
    refine gw_callI C (c_Mod_isHouse _ hg k_o_0 hq15) d_Mod_swap_15 1 qw_1410 qw_1412 qs_57 qw_12 qw_1413 k_o_0 (by decide) rfl hd_Mod_isHouse rfl rfl (Nat.le_of_ble_eq_true rfl) ⟨rfl, rfl, Nat.le_of_ble_eq_true rfl, Nat.le_of_ble_eq_true rfl⟩ ⟨Nat.zero_le _, Nat.zero_le _⟩ ?_
    refine gw_if_eq C 66 d_Mod_swap_18 (by decide) (fun hc => ?_) (fun hc => ?_)
    · replace hf0 := mx_t hc hf0
      refine gw_iconst C (0 : Int32) d_Mod_swap_66 (by decide) ?_
      exact en_z hN (Or.inl rfl) hf0 d_Mod_swap_67
    · replace hf0 := mx_f hc hf0
      refine gw_iload_n C 1 d_Mod_swap_21 rfl rfl ?_
      refine gw_iload_n C 2 d_Mod_swap_22 rfl rfl ?_
      refine gw_icmp_eq C 66 d_Mod_swap_23 (by decide) (fun hc => ?_) (fun hc => ?_)
      · replace hf0 := mx_t hc hf0
        refine gw_iconst C (0 : Int32) d_Mod_swap_66 (by decide) ?_
        exact en_z hN (Or.inl rfl) hf0 d_Mod_swap_67
      · replace hf0 := mx_f hc hf0
        refine gw_aload_n C 0 d_Mod_swap_26 rfl rfl ?_
        refine gw_getA C 6 d_Mod_swap_27 k_o_0 (by decide) i_Mod rfl rfl (by decide) qw_1171 rfl rfl (o + 2) rfl ?_
        refine gw_bipush C (123 : Int32) d_Mod_swap_30 (by decide) ?_
        refine gw_iload_n C 1 d_Mod_swap_32 rfl rfl ?_
        refine gw_iadd C d_Mod_swap_33 ?_
        obtain ⟨x34, hx34, hf0⟩ := mx_bd hf0
        obtain ⟨gx34, ex34⟩ := mx_ldI hx34
        refine gw_iald C d_Mod_swap_34 k_o_2 gx34 ex34 ?_
        refine gw_if_lt C 66 d_Mod_swap_35 (by decide) (fun hc => ?_) (fun hc => ?_)
        · replace hf0 := mx_t hc hf0
          refine gw_iconst C (0 : Int32) d_Mod_swap_66 (by decide) ?_
          exact en_z hN (Or.inl rfl) hf0 d_Mod_swap_67
        · replace hf0 := mx_f hc hf0
          refine gw_aload_n C 0 d_Mod_swap_38 rfl rfl ?_
          refine gw_getA C 6 d_Mod_swap_39 k_o_0 (by decide) i_Mod rfl rfl (by decide) qw_1171 rfl rfl (o + 2) rfl ?_
          refine gw_bipush C (123 : Int32) d_Mod_swap_42 (by decide) ?_
          refine gw_iload_n C 2 d_Mod_swap_44 rfl rfl ?_
          refine gw_iadd C d_Mod_swap_45 ?_
          obtain ⟨x46, hx46, hf0⟩ := mx_bd hf0
          obtain ⟨gx46, ex46⟩ := mx_ldI hx46
          refine gw_iald C d_Mod_swap_46 k_o_2 gx46 ex46 ?_
          refine gw_if_lt C 66 d_Mod_swap_47 (by decide) (fun hc => ?_) (fun hc => ?_)
          · replace hf0 := mx_t hc hf0
            refine gw_iconst C (0 : Int32) d_Mod_swap_66 (by decide) ?_
            exact en_z hN (Or.inl rfl) hf0 d_Mod_swap_67
          · replace hf0 := mx_f hc hf0
            refine gw_aload_n C 0 d_Mod_swap_50 rfl rfl ?_
            refine gw_iload_n C 1 d_Mod_swap_51 rfl rfl ?_
            obtain ⟨q52, hq52, hf0⟩ := mx_bd hf0
            refine gw_callI C (c_Mod_isPawned _ hg k_o_0 hq52) d_Mod_swap_52 1 qw_1454 qw_1456 qs_62 qw_12 qw_1457 k_o_0 (by decide) rfl hd_Mod_isPawned rfl rfl (Nat.le_of_ble_eq_true rfl) ⟨rfl, rfl, Nat.le_of_ble_eq_true rfl, Nat.le_of_ble_eq_true rfl⟩ ⟨Nat.zero_le _, Nat.zero_le _⟩ ?_
            refine gw_if_ne C 66 d_Mod_swap_55 (by decide) (fun hc => ?_) (fun hc => ?_)
            · replace hf0 := mx_f hc hf0
              refine gw_iconst C (0 : Int32) d_Mod_swap_66 (by decide) ?_
              exact en_z hN (Or.inl rfl) hf0 d_Mod_swap_67
            · replace hf0 := mx_t hc hf0
              refine gw_aload_n C 0 d_Mod_swap_58 rfl rfl ?_
              refine gw_iload_n C 2 d_Mod_swap_59 rfl rfl ?_
              obtain ⟨q60, hq60, hf0⟩ := mx_bd hf0
              refine gw_callI C (c_Mod_isPawned _ hg k_o_0 hq60) d_Mod_swap_60 1 qw_1454 qw_1456 qs_62 qw_12 qw_1457 k_o_0 (by decide) rfl hd_Mod_isPawned rfl rfl (Nat.le_of_ble_eq_true rfl) ⟨rfl, rfl, Nat.le_of_ble_eq_true rfl, Nat.le_of_ble_eq_true rfl⟩ ⟨Nat.zero_le _, Nat.zero_le _⟩ ?_
              refine gw_if_eq C 68 d_Mod_swap_63 (by decide) (fun hc => ?_) (fun hc => ?_)
              · replace hf0 := mx_t hc hf0
                refine gw_aload_n C 0 d_Mod_swap_68 rfl rfl ?_
                refine gw_iload_n C 1 d_Mod_swap_69 rfl rfl ?_
                refine gw_iload_n C 2 d_Mod_swap_70 rfl rfl ?_
                obtain ⟨q71, hq71, hf0⟩ := mx_bd hf0
                refine gw_callV C (c_Mod_exchange _ hg k_o_0 hq71) d_Mod_swap_71 2 qw_1458 qw_1460 qs_63 qw_12 qw_1461 k_o_0 (by decide) rfl hd_Mod_exchange rfl rfl (Nat.le_of_ble_eq_true rfl) ⟨rfl, rfl, Nat.le_of_ble_eq_true rfl, Nat.le_of_ble_eq_true rfl⟩ ⟨Nat.zero_le _, Nat.zero_le _⟩ ?_
                refine gw_iconst C (1 : Int32) d_Mod_swap_74 (by decide) ?_
                exact en_z hN (Or.inr rfl) hf0 d_Mod_swap_75
              · replace hf0 := mx_f hc hf0
                refine gw_iconst C (0 : Int32) d_Mod_swap_66 (by decide) ?_
                exact en_z hN (Or.inl rfl) hf0 d_Mod_swap_67

/-! NameHatModel.isMore(II)Z -/
abbrev b_Mod_isMore : ByteArray := prog_14_method_48_code
def y_Mod_isMore : MethodName := ⟨"NameHatModel", "isMore", "(II)Z"⟩
abbrev rm_Mod_isMore : Room := { frames := 1, cells := 0, slots := 0, locals := 23 }
theorem hd_Mod_isMore : y_Mod_isMore.cls ≠ "java/lang/invoke/MethodHandle" ∧ y_Mod_isMore.cls ≠ "java/lang/invoke/VarHandle" ∧ (parseMethodDescriptor y_Mod_isMore.desc).map (fun d => d.parameters.length) = some 2 := by decide +kernel
theorem d_Mod_isMore_0 : decode b_Mod_isMore 0 = .ok (.iload_n 1, 1) := by decide +kernel
theorem d_Mod_isMore_1 : decode b_Mod_isMore 1 = .ok (.iload_n 2, 1) := by decide +kernel
theorem d_Mod_isMore_2 : decode b_Mod_isMore 2 = .ok (.if_icmp .eq 78, 3) := by decide +kernel
theorem d_Mod_isMore_5 : decode b_Mod_isMore 5 = .ok (.aload_n 0, 1) := by decide +kernel
theorem d_Mod_isMore_6 : decode b_Mod_isMore 6 = .ok (.getfield 33, 3) := by decide +kernel
theorem d_Mod_isMore_9 : decode b_Mod_isMore 9 = .ok (.bipush 123, 2) := by decide +kernel
theorem d_Mod_isMore_11 : decode b_Mod_isMore 11 = .ok (.iload_n 1, 1) := by decide +kernel
theorem d_Mod_isMore_12 : decode b_Mod_isMore 12 = .ok (.iadd, 1) := by decide +kernel
theorem d_Mod_isMore_13 : decode b_Mod_isMore 13 = .ok (.iaload, 1) := by decide +kernel
theorem d_Mod_isMore_14 : decode b_Mod_isMore 14 = .ok (.ifCond .lt 66, 3) := by decide +kernel
theorem d_Mod_isMore_17 : decode b_Mod_isMore 17 = .ok (.aload_n 0, 1) := by decide +kernel
theorem d_Mod_isMore_18 : decode b_Mod_isMore 18 = .ok (.getfield 33, 3) := by decide +kernel
theorem d_Mod_isMore_21 : decode b_Mod_isMore 21 = .ok (.bipush 123, 2) := by decide +kernel
theorem d_Mod_isMore_23 : decode b_Mod_isMore 23 = .ok (.iload_n 2, 1) := by decide +kernel
theorem d_Mod_isMore_24 : decode b_Mod_isMore 24 = .ok (.iadd, 1) := by decide +kernel
theorem d_Mod_isMore_25 : decode b_Mod_isMore 25 = .ok (.iaload, 1) := by decide +kernel
theorem d_Mod_isMore_26 : decode b_Mod_isMore 26 = .ok (.ifCond .lt 54, 3) := by decide +kernel
theorem d_Mod_isMore_29 : decode b_Mod_isMore 29 = .ok (.aload_n 0, 1) := by decide +kernel
theorem d_Mod_isMore_30 : decode b_Mod_isMore 30 = .ok (.iload_n 1, 1) := by decide +kernel
theorem d_Mod_isMore_31 : decode b_Mod_isMore 31 = .ok (.invokevirtual 274, 3) := by decide +kernel
theorem d_Mod_isMore_34 : decode b_Mod_isMore 34 = .ok (.ifCond .ne 46, 3) := by decide +kernel
theorem d_Mod_isMore_37 : decode b_Mod_isMore 37 = .ok (.aload_n 0, 1) := by decide +kernel
theorem d_Mod_isMore_38 : decode b_Mod_isMore 38 = .ok (.iload_n 2, 1) := by decide +kernel
theorem d_Mod_isMore_39 : decode b_Mod_isMore 39 = .ok (.invokevirtual 274, 3) := by decide +kernel
theorem d_Mod_isMore_42 : decode b_Mod_isMore 42 = .ok (.ifCond .ne 38, 3) := by decide +kernel
theorem d_Mod_isMore_45 : decode b_Mod_isMore 45 = .ok (.aload_n 0, 1) := by decide +kernel
theorem d_Mod_isMore_46 : decode b_Mod_isMore 46 = .ok (.iload_n 1, 1) := by decide +kernel
theorem d_Mod_isMore_47 : decode b_Mod_isMore 47 = .ok (.aload_n 0, 1) := by decide +kernel
theorem d_Mod_isMore_48 : decode b_Mod_isMore 48 = .ok (.getfield 33, 3) := by decide +kernel
theorem d_Mod_isMore_51 : decode b_Mod_isMore 51 = .ok (.bipush 123, 2) := by decide +kernel
theorem d_Mod_isMore_53 : decode b_Mod_isMore 53 = .ok (.iload_n 2, 1) := by decide +kernel
theorem d_Mod_isMore_54 : decode b_Mod_isMore 54 = .ok (.iadd, 1) := by decide +kernel
theorem d_Mod_isMore_55 : decode b_Mod_isMore 55 = .ok (.iaload, 1) := by decide +kernel
theorem d_Mod_isMore_56 : decode b_Mod_isMore 56 = .ok (.invokevirtual 255, 3) := by decide +kernel
theorem d_Mod_isMore_59 : decode b_Mod_isMore 59 = .ok (.aload_n 0, 1) := by decide +kernel
theorem d_Mod_isMore_60 : decode b_Mod_isMore 60 = .ok (.iload_n 1, 1) := by decide +kernel
theorem d_Mod_isMore_61 : decode b_Mod_isMore 61 = .ok (.aload_n 0, 1) := by decide +kernel
theorem d_Mod_isMore_62 : decode b_Mod_isMore 62 = .ok (.getfield 33, 3) := by decide +kernel
theorem d_Mod_isMore_65 : decode b_Mod_isMore 65 = .ok (.bipush 123, 2) := by decide +kernel
theorem d_Mod_isMore_67 : decode b_Mod_isMore 67 = .ok (.iload_n 1, 1) := by decide +kernel
theorem d_Mod_isMore_68 : decode b_Mod_isMore 68 = .ok (.iadd, 1) := by decide +kernel
theorem d_Mod_isMore_69 : decode b_Mod_isMore 69 = .ok (.iaload, 1) := by decide +kernel
theorem d_Mod_isMore_70 : decode b_Mod_isMore 70 = .ok (.invokevirtual 255, 3) := by decide +kernel
theorem d_Mod_isMore_73 : decode b_Mod_isMore 73 = .ok (.if_icmp .le 7, 3) := by decide +kernel
theorem d_Mod_isMore_76 : decode b_Mod_isMore 76 = .ok (.iconst 1, 1) := by decide +kernel
theorem d_Mod_isMore_77 : decode b_Mod_isMore 77 = .ok (.goto 4, 3) := by decide +kernel
theorem d_Mod_isMore_80 : decode b_Mod_isMore 80 = .ok (.iconst 0, 1) := by decide +kernel
theorem d_Mod_isMore_81 : decode b_Mod_isMore 81 = .ok (.ireturn, 1) := by decide +kernel
noncomputable def f_Mod_isMore (z : Nat → Nat) (σ : Mm) (o : Nat) (p1 : Int32) (p2 : Int32) : Option (Int32) :=
  if p1 = p2 then (
    some (0 : Int32)
  ) else (
    (mm_ldI (σ.1 (o + 2)) (z (o + 2)) ((123 : Int32) + p1)).bind fun x13 =>
    if x13 < 0 then (
      some (0 : Int32)
    ) else (
      (mm_ldI (σ.1 (o + 2)) (z (o + 2)) ((123 : Int32) + p2)).bind fun x25 =>
      if x25 < 0 then (
        some (0 : Int32)
      ) else (
        (f_Mod_isPawned z σ o p1).bind fun q31 =>
        if q31 = 0 then (
          (f_Mod_isPawned z σ o p2).bind fun q39 =>
          if q39 = 0 then (
            (mm_ldI (σ.1 (o + 2)) (z (o + 2)) ((123 : Int32) + p2)).bind fun x55 =>
            (f_Mod_valueOf z σ o p1 x55).bind fun q56 =>
            (mm_ldI (σ.1 (o + 2)) (z (o + 2)) ((123 : Int32) + p1)).bind fun x69 =>
            (f_Mod_valueOf z σ o p1 x69).bind fun q70 =>
            if q56 ≤ q70 then (
              some (0 : Int32)
            ) else (
              some (1 : Int32)
            )
          ) else (
            some (0 : Int32)
          )
        ) else (
          some (0 : Int32)
        )
      )
    )
  )
set_option maxHeartbeats 4000000 in
set_option maxRecDepth 100000 in
theorem c_Mod_isMore (l : Launch) {L : Ly} (hg : gd_ok L) {σ : Mm} {o : Nat} {p1 : Int32} {p2 : Int32} (k_o_0 : ly_k L o = 11) {res : Int32} (hf0 : f_Mod_isMore (ly_z L) σ o p1 p2 = some res) : CtI l y_Mod_isMore b_Mod_isMore 3 (some .boolean) rm_Mod_isMore L [.ref (ly_a L o), .int p1, .int p2] σ res σ := by
  refine ct_z hg (by decide) (Nat.le_of_ble_eq_true rfl) ?_
  intro E A Q hE C hN
  subst hE
  have k_o_2 : ly_k L (o + 2) = 20 := gd_Mod_s hg k_o_0
  unfold f_Mod_isMore at hf0
  show GW E L A 3 0 0 Q σ 0 [(0, .ref (ly_a L o)), (1, .int p1), (2, .int p2)] []
  refine gw_iload_n C 1 d_Mod_isMore_0 rfl rfl ?_
  refine gw_iload_n C 2 d_Mod_isMore_1 rfl rfl ?_
  refine gw_icmp_eq C 80 d_Mod_isMore_2 (by decide) (fun hc => ?_) (fun hc => ?_)
  · replace hf0 := mx_t hc hf0
    refine gw_iconst C (0 : Int32) d_Mod_isMore_80 (by decide) ?_
    exact en_zp hN (Or.inl rfl) hf0 d_Mod_isMore_81
  · replace hf0 := mx_f hc hf0
    refine gw_aload_n C 0 d_Mod_isMore_5 rfl rfl ?_
    refine gw_getA C 6 d_Mod_isMore_6 k_o_0 (by decide) i_Mod rfl rfl (by decide) qw_1171 rfl rfl (o + 2) rfl ?_
    refine gw_bipush C (123 : Int32) d_Mod_isMore_9 (by decide) ?_
    refine gw_iload_n C 1 d_Mod_isMore_11 rfl rfl ?_
    refine gw_iadd C d_Mod_isMore_12 ?_
    obtain ⟨x13, hx13, hf0⟩ := mx_bd hf0
    obtain ⟨gx13, ex13⟩ := mx_ldI hx13
    refine gw_iald C d_Mod_isMore_13 k_o_2 gx13 ex13 ?_
    refine gw_if_lt C 80 d_Mod_isMore_14 (by decide) (fun hc => ?_) (fun hc => ?_)
    · replace hf0 := mx_t hc hf0
      refine gw_iconst C (0 : Int32) d_Mod_isMore_80 (by decide) ?_
      exact en_zp hN (Or.inl rfl) hf0 d_Mod_isMore_81
    · replace hf0 := mx_f hc hf0
      refine gw_aload_n C 0 d_Mod_isMore_17 rfl rfl ?_
      refine gw_getA C 6 d_Mod_isMore_18 k_o_0 (by decide) i_Mod rfl rfl (by decide) qw_1171 rfl rfl (o + 2) rfl ?_
      refine gw_bipush C (123 : Int32) d_Mod_isMore_21 (by decide) ?_
      refine gw_iload_n C 2 d_Mod_isMore_23 rfl rfl ?_
      refine gw_iadd C d_Mod_isMore_24 ?_
      obtain ⟨x25, hx25, hf0⟩ := mx_bd hf0
      obtain ⟨gx25, ex25⟩ := mx_ldI hx25
      refine gw_iald C d_Mod_isMore_25 k_o_2 gx25 ex25 ?_
      refine gw_if_lt C 80 d_Mod_isMore_26 (by decide) (fun hc => ?_) (fun hc => ?_)
      · replace hf0 := mx_t hc hf0
        refine gw_iconst C (0 : Int32) d_Mod_isMore_80 (by decide) ?_
        exact en_zp hN (Or.inl rfl) hf0 d_Mod_isMore_81
      · replace hf0 := mx_f hc hf0
        refine gw_aload_n C 0 d_Mod_isMore_29 rfl rfl ?_
        refine gw_iload_n C 1 d_Mod_isMore_30 rfl rfl ?_
        obtain ⟨q31, hq31, hf0⟩ := mx_bd hf0
        refine gw_callI C (c_Mod_isPawned _ hg k_o_0 hq31) d_Mod_isMore_31 1 qw_1454 qw_1456 qs_62 qw_12 qw_1457 k_o_0 (by decide) rfl hd_Mod_isPawned rfl rfl (Nat.le_of_ble_eq_true rfl) ⟨rfl, rfl, Nat.le_of_ble_eq_true rfl, Nat.le_of_ble_eq_true rfl⟩ ⟨Nat.zero_le _, Nat.zero_le _⟩ ?_
        refine gw_if_ne C 80 d_Mod_isMore_34 (by decide) (fun hc => ?_) (fun hc => ?_)
        · replace hf0 := mx_f hc hf0
          refine gw_iconst C (0 : Int32) d_Mod_isMore_80 (by decide) ?_
          exact en_zp hN (Or.inl rfl) hf0 d_Mod_isMore_81
        · replace hf0 := mx_t hc hf0
          refine gw_aload_n C 0 d_Mod_isMore_37 rfl rfl ?_
          refine gw_iload_n C 2 d_Mod_isMore_38 rfl rfl ?_
          obtain ⟨q39, hq39, hf0⟩ := mx_bd hf0
          refine gw_callI C (c_Mod_isPawned _ hg k_o_0 hq39) d_Mod_isMore_39 1 qw_1454 qw_1456 qs_62 qw_12 qw_1457 k_o_0 (by decide) rfl hd_Mod_isPawned rfl rfl (Nat.le_of_ble_eq_true rfl) ⟨rfl, rfl, Nat.le_of_ble_eq_true rfl, Nat.le_of_ble_eq_true rfl⟩ ⟨Nat.zero_le _, Nat.zero_le _⟩ ?_
          refine gw_if_ne C 80 d_Mod_isMore_42 (by decide) (fun hc => ?_) (fun hc => ?_)
          · replace hf0 := mx_f hc hf0
            refine gw_iconst C (0 : Int32) d_Mod_isMore_80 (by decide) ?_
            exact en_zp hN (Or.inl rfl) hf0 d_Mod_isMore_81
          · replace hf0 := mx_t hc hf0
            refine gw_aload_n C 0 d_Mod_isMore_45 rfl rfl ?_
            refine gw_iload_n C 1 d_Mod_isMore_46 rfl rfl ?_
            refine gw_aload_n C 0 d_Mod_isMore_47 rfl rfl ?_
            refine gw_getA C 6 d_Mod_isMore_48 k_o_0 (by decide) i_Mod rfl rfl (by decide) qw_1171 rfl rfl (o + 2) rfl ?_
            refine gw_bipush C (123 : Int32) d_Mod_isMore_51 (by decide) ?_
            refine gw_iload_n C 2 d_Mod_isMore_53 rfl rfl ?_
            refine gw_iadd C d_Mod_isMore_54 ?_
            obtain ⟨x55, hx55, hf0⟩ := mx_bd hf0
            obtain ⟨gx55, ex55⟩ := mx_ldI hx55
            refine gw_iald C d_Mod_isMore_55 k_o_2 gx55 ex55 ?_
            obtain ⟨q56, hq56, hf0⟩ := mx_bd hf0
            refine gw_callI C (c_Mod_valueOf _ hg k_o_0 hq56) d_Mod_isMore_56 2 qw_1418 qw_1420 qs_58 qw_12 qw_1421 k_o_0 (by decide) rfl hd_Mod_valueOf rfl rfl (Nat.le_of_ble_eq_true rfl) ⟨rfl, rfl, Nat.le_of_ble_eq_true rfl, Nat.le_of_ble_eq_true rfl⟩ ⟨Nat.zero_le _, Nat.zero_le _⟩ ?_
            refine gw_aload_n C 0 d_Mod_isMore_59 rfl rfl ?_
            refine gw_iload_n C 1 d_Mod_isMore_60 rfl rfl ?_
            refine gw_aload_n C 0 d_Mod_isMore_61 rfl rfl ?_
            refine gw_getA C 6 d_Mod_isMore_62 k_o_0 (by decide) i_Mod rfl rfl (by decide) qw_1171 rfl rfl (o + 2) rfl ?_
            refine gw_bipush C (123 : Int32) d_Mod_isMore_65 (by decide) ?_
            refine gw_iload_n C 1 d_Mod_isMore_67 rfl rfl ?_
            refine gw_iadd C d_Mod_isMore_68 ?_
            obtain ⟨x69, hx69, hf0⟩ := mx_bd hf0
            obtain ⟨gx69, ex69⟩ := mx_ldI hx69
            refine gw_iald C d_Mod_isMore_69 k_o_2 gx69 ex69 ?_
            obtain ⟨q70, hq70, hf0⟩ := mx_bd hf0
            refine gw_callI C (c_Mod_valueOf _ hg k_o_0 hq70) d_Mod_isMore_70 2 qw_1418 qw_1420 qs_58 qw_12 qw_1421 k_o_0 (by decide) rfl hd_Mod_valueOf rfl rfl (Nat.le_of_ble_eq_true rfl) ⟨rfl, rfl, Nat.le_of_ble_eq_true rfl, Nat.le_of_ble_eq_true rfl⟩ ⟨Nat.zero_le _, Nat.zero_le _⟩ ?_
            refine gw_icmp_le C 80 d_Mod_isMore_73 (by decide) (fun hc => ?_) (fun hc => ?_)
            · replace hf0 := mx_t hc hf0
              refine gw_iconst C (0 : Int32) d_Mod_isMore_80 (by decide) ?_
              exact en_zp hN (Or.inl rfl) hf0 d_Mod_isMore_81
            · replace hf0 := mx_f hc hf0
              refine gw_iconst C (1 : Int32) d_Mod_isMore_76 (by decide) ?_
              refine gw_goto C 81 d_Mod_isMore_77 (by decide) ?_
              exact en_zp hN (Or.inr rfl) hf0 d_Mod_isMore_81
