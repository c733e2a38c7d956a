theorem dL_below_0 : decode cL_below 0 = .ok (.iload_n 0, 1) := by decide +kernel
theorem dL_below_1 : decode cL_below 1 = .ok (.ldc 7, 2) := by decide +kernel
theorem dL_below_3 : decode cL_below 3 = .ok (.iand, 1) := by decide +kernel
theorem dL_below_4 : decode cL_below 4 = .ok (.iload_n 1, 1) := by decide +kernel
theorem dL_below_5 : decode cL_below 5 = .ok (.irem, 1) := by decide +kernel
theorem dL_below_6 : decode cL_below 6 = .ok (.ireturn, 1) := by decide +kernel
theorem dL_cell_0 : decode cL_cell 0 = .ok (.iload_n 1, 1) := by decide +kernel
theorem dL_cell_1 : decode cL_cell 1 = .ok (.aload_n 0, 1) := by decide +kernel
theorem dL_cell_2 : decode cL_cell 2 = .ok (.arraylength, 1) := by decide +kernel
theorem dL_cell_3 : decode cL_cell 3 = .ok (.if_icmp .ge 9, 3) := by decide +kernel
theorem dL_cell_6 : decode cL_cell 6 = .ok (.aload_n 0, 1) := by decide +kernel
theorem dL_cell_7 : decode cL_cell 7 = .ok (.iload_n 1, 1) := by decide +kernel
theorem dL_cell_8 : decode cL_cell 8 = .ok (.iaload, 1) := by decide +kernel
theorem dL_cell_9 : decode cL_cell 9 = .ok (.goto 9, 3) := by decide +kernel
theorem dL_cell_12 : decode cL_cell 12 = .ok (.ldc 8, 2) := by decide +kernel
theorem dL_cell_14 : decode cL_cell 14 = .ok (.iload_n 1, 1) := by decide +kernel
theorem dL_cell_15 : decode cL_cell 15 = .ok (.iconst 3, 1) := by decide +kernel
theorem dL_cell_16 : decode cL_cell 16 = .ok (.iadd, 1) := by decide +kernel
theorem dL_cell_17 : decode cL_cell 17 = .ok (.imul, 1) := by decide +kernel
theorem dL_cell_18 : decode cL_cell 18 = .ok (.ireturn, 1) := by decide +kernel
theorem dL_act_0 : decode cL_act 0 = .ok (.aload_n 1, 1) := by decide +kernel
theorem dL_act_1 : decode cL_act 1 = .ok (.getfield 9, 3) := by decide +kernel
theorem dL_act_4 : decode cL_act 4 = .ok (.arraylength, 1) := by decide +kernel
theorem dL_act_5 : decode cL_act 5 = .ok (.istore_n 3, 1) := by decide +kernel
theorem dL_act_6 : decode cL_act 6 = .ok (.aload_n 1, 1) := by decide +kernel
theorem dL_act_7 : decode cL_act 7 = .ok (.getfield 15, 3) := by decide +kernel
theorem dL_act_10 : decode cL_act 10 = .ok (.arraylength, 1) := by decide +kernel
theorem dL_act_11 : decode cL_act 11 = .ok (.istore 4, 2) := by decide +kernel
theorem dL_act_13 : decode cL_act 13 = .ok (.iload_n 2, 1) := by decide +kernel
theorem dL_act_14 : decode cL_act 14 = .ok (.bipush 9, 2) := by decide +kernel
theorem dL_act_16 : decode cL_act 16 = .ok (.ishr, 1) := by decide +kernel
theorem dL_act_17 : decode cL_act 17 = .ok (.bipush 18, 2) := by decide +kernel
theorem dL_act_19 : decode cL_act 19 = .ok (.invokestatic 19, 3) := by decide +kernel
theorem dL_act_22 : decode cL_act 22 = .ok (.istore 5, 2) := by decide +kernel
theorem dL_act_24 : decode cL_act 24 = .ok (.iload_n 3, 1) := by decide +kernel
theorem dL_act_25 : decode cL_act 25 = .ok (.ifCond .eq 9, 3) := by decide +kernel
theorem dL_act_28 : decode cL_act 28 = .ok (.iload 5, 2) := by decide +kernel
theorem dL_act_30 : decode cL_act 30 = .ok (.iconst 2, 1) := by decide +kernel
theorem dL_act_31 : decode cL_act 31 = .ok (.if_icmp .ge 103, 3) := by decide +kernel
theorem dL_act_34 : decode cL_act 34 = .ok (.iload_n 3, 1) := by decide +kernel
theorem dL_act_35 : decode cL_act 35 = .ok (.bipush 8, 2) := by decide +kernel
theorem dL_act_37 : decode cL_act 37 = .ok (.if_icmp .ne 5, 3) := by decide +kernel
theorem dL_act_40 : decode cL_act 40 = .ok (.iconst 1, 1) := by decide +kernel
theorem dL_act_41 : decode cL_act 41 = .ok (.ireturn, 1) := by decide +kernel
theorem dL_act_42 : decode cL_act 42 = .ok (.iconst 2, 1) := by decide +kernel
theorem dL_act_43 : decode cL_act 43 = .ok (.iload_n 2, 1) := by decide +kernel
theorem dL_act_44 : decode cL_act 44 = .ok (.iconst 3, 1) := by decide +kernel
theorem dL_act_45 : decode cL_act 45 = .ok (.ishr, 1) := by decide +kernel
theorem dL_act_46 : decode cL_act 46 = .ok (.bipush 19, 2) := by decide +kernel
theorem dL_act_48 : decode cL_act 48 = .ok (.invokestatic 19, 3) := by decide +kernel
theorem dL_act_51 : decode cL_act 51 = .ok (.iadd, 1) := by decide +kernel
theorem dL_act_52 : decode cL_act 52 = .ok (.istore 6, 2) := by decide +kernel
theorem dL_act_54 : decode cL_act 54 = .ok (.iconst 5, 1) := by decide +kernel
theorem dL_act_55 : decode cL_act 55 = .ok (.newarray .int, 2) := by decide +kernel
theorem dL_act_57 : decode cL_act 57 = .ok (.dup, 1) := by decide +kernel
theorem dL_act_58 : decode cL_act 58 = .ok (.iconst 0, 1) := by decide +kernel
theorem dL_act_59 : decode cL_act 59 = .ok (.iconst 1, 1) := by decide +kernel
theorem dL_act_60 : decode cL_act 60 = .ok (.iload_n 2, 1) := by decide +kernel
theorem dL_act_61 : decode cL_act 61 = .ok (.iconst 1, 1) := by decide +kernel
theorem dL_act_62 : decode cL_act 62 = .ok (.ishr, 1) := by decide +kernel
theorem dL_act_63 : decode cL_act 63 = .ok (.bipush 9, 2) := by decide +kernel
theorem dL_act_65 : decode cL_act 65 = .ok (.invokestatic 19, 3) := by decide +kernel
theorem dL_act_68 : decode cL_act 68 = .ok (.iadd, 1) := by decide +kernel
theorem dL_act_69 : decode cL_act 69 = .ok (.iastore, 1) := by decide +kernel
theorem dL_act_70 : decode cL_act 70 = .ok (.dup, 1) := by decide +kernel
theorem dL_act_71 : decode cL_act 71 = .ok (.iconst 1, 1) := by decide +kernel
theorem dL_act_72 : decode cL_act 72 = .ok (.iload 6, 2) := by decide +kernel
theorem dL_act_74 : decode cL_act 74 = .ok (.iastore, 1) := by decide +kernel
theorem dL_act_75 : decode cL_act 75 = .ok (.dup, 1) := by decide +kernel
theorem dL_act_76 : decode cL_act 76 = .ok (.iconst 2, 1) := by decide +kernel
theorem dL_act_77 : decode cL_act 77 = .ok (.iload_n 2, 1) := by decide +kernel
theorem dL_act_78 : decode cL_act 78 = .ok (.bipush 6, 2) := by decide +kernel
theorem dL_act_80 : decode cL_act 80 = .ok (.ishr, 1) := by decide +kernel
theorem dL_act_81 : decode cL_act 81 = .ok (.iload 6, 2) := by decide +kernel
theorem dL_act_83 : decode cL_act 83 = .ok (.invokestatic 19, 3) := by decide +kernel
theorem dL_act_86 : decode cL_act 86 = .ok (.iastore, 1) := by decide +kernel
theorem dL_act_87 : decode cL_act 87 = .ok (.dup, 1) := by decide +kernel
theorem dL_act_88 : decode cL_act 88 = .ok (.iconst 3, 1) := by decide +kernel
theorem dL_act_89 : decode cL_act 89 = .ok (.iconst 0, 1) := by decide +kernel
theorem dL_act_90 : decode cL_act 90 = .ok (.iastore, 1) := by decide +kernel
theorem dL_act_91 : decode cL_act 91 = .ok (.dup, 1) := by decide +kernel
theorem dL_act_92 : decode cL_act 92 = .ok (.iconst 4, 1) := by decide +kernel
theorem dL_act_93 : decode cL_act 93 = .ok (.iconst 0, 1) := by decide +kernel
theorem dL_act_94 : decode cL_act 94 = .ok (.iastore, 1) := by decide +kernel
theorem dL_act_95 : decode cL_act 95 = .ok (.astore 7, 2) := by decide +kernel
theorem dL_act_97 : decode cL_act 97 = .ok (.aload_n 1, 1) := by decide +kernel
theorem dL_act_98 : decode cL_act 98 = .ok (.aload_n 1, 1) := by decide +kernel
theorem dL_act_99 : decode cL_act 99 = .ok (.getfield 9, 3) := by decide +kernel
theorem dL_act_102 : decode cL_act 102 = .ok (.aload 7, 2) := by decide +kernel
theorem dL_act_104 : decode cL_act 104 = .ok (.invokestatic 25, 3) := by decide +kernel
theorem dL_act_107 : decode cL_act 107 = .ok (.putfield 9, 3) := by decide +kernel
theorem dL_act_110 : decode cL_act 110 = .ok (.aload_n 0, 1) := by decide +kernel
theorem dL_act_111 : decode cL_act 111 = .ok (.aload 7, 2) := by decide +kernel
theorem dL_act_113 : decode cL_act 113 = .ok (.iconst 0, 1) := by decide +kernel
theorem dL_act_114 : decode cL_act 114 = .ok (.iaload, 1) := by decide +kernel
theorem dL_act_115 : decode cL_act 115 = .ok (.iload 6, 2) := by decide +kernel
theorem dL_act_117 : decode cL_act 117 = .ok (.aload 7, 2) := by decide +kernel
theorem dL_act_119 : decode cL_act 119 = .ok (.iconst 2, 1) := by decide +kernel
theorem dL_act_120 : decode cL_act 120 = .ok (.iaload, 1) := by decide +kernel
theorem dL_act_121 : decode cL_act 121 = .ok (.invokevirtual 29, 3) := by decide +kernel
theorem dL_act_124 : decode cL_act 124 = .ok (.iload_n 3, 1) := by decide +kernel
theorem dL_act_125 : decode cL_act 125 = .ok (.if_icmp .ne 7, 3) := by decide +kernel
theorem dL_act_128 : decode cL_act 128 = .ok (.iconst 1, 1) := by decide +kernel
theorem dL_act_129 : decode cL_act 129 = .ok (.goto 4, 3) := by decide +kernel
theorem dL_act_132 : decode cL_act 132 = .ok (.iconst 0, 1) := by decide +kernel
theorem dL_act_133 : decode cL_act 133 = .ok (.ireturn, 1) := by decide +kernel
theorem dL_act_134 : decode cL_act 134 = .ok (.iload 4, 2) := by decide +kernel
theorem dL_act_136 : decode cL_act 136 = .ok (.ifCond .eq 9, 3) := by decide +kernel
theorem dL_act_139 : decode cL_act 139 = .ok (.iload 5, 2) := by decide +kernel
theorem dL_act_141 : decode cL_act 141 = .ok (.iconst 2, 1) := by decide +kernel
theorem dL_act_142 : decode cL_act 142 = .ok (.if_icmp .ne 31, 3) := by decide +kernel
theorem dL_act_145 : decode cL_act 145 = .ok (.iload 4, 2) := by decide +kernel
theorem dL_act_147 : decode cL_act 147 = .ok (.bipush 6, 2) := by decide +kernel
theorem dL_act_149 : decode cL_act 149 = .ok (.if_icmp .ne 5, 3) := by decide +kernel
theorem dL_act_152 : decode cL_act 152 = .ok (.iconst 1, 1) := by decide +kernel
theorem dL_act_153 : decode cL_act 153 = .ok (.ireturn, 1) := by decide +kernel
theorem dL_act_154 : decode cL_act 154 = .ok (.aload_n 1, 1) := by decide +kernel
theorem dL_act_155 : decode cL_act 155 = .ok (.invokevirtual 35, 3) := by decide +kernel
theorem dL_act_158 : decode cL_act 158 = .ok (.aload_n 0, 1) := by decide +kernel
theorem dL_act_159 : decode cL_act 159 = .ok (.invokevirtual 38, 3) := by decide +kernel
theorem dL_act_162 : decode cL_act 162 = .ok (.iload 4, 2) := by decide +kernel
theorem dL_act_164 : decode cL_act 164 = .ok (.if_icmp .ne 7, 3) := by decide +kernel
theorem dL_act_167 : decode cL_act 167 = .ok (.iconst 1, 1) := by decide +kernel
theorem dL_act_168 : decode cL_act 168 = .ok (.goto 4, 3) := by decide +kernel
theorem dL_act_171 : decode cL_act 171 = .ok (.iconst 0, 1) := by decide +kernel
theorem dL_act_172 : decode cL_act 172 = .ok (.ireturn, 1) := by decide +kernel
theorem dL_act_173 : decode cL_act 173 = .ok (.iload_n 2, 1) := by decide +kernel
theorem dL_act_174 : decode cL_act 174 = .ok (.iconst 1, 1) := by decide +kernel
theorem dL_act_175 : decode cL_act 175 = .ok (.ishr, 1) := by decide +kernel
theorem dL_act_176 : decode cL_act 176 = .ok (.iload 4, 2) := by decide +kernel
theorem dL_act_178 : decode cL_act 178 = .ok (.invokestatic 19, 3) := by decide +kernel
theorem dL_act_181 : decode cL_act 181 = .ok (.istore 6, 2) := by decide +kernel
theorem dL_act_183 : decode cL_act 183 = .ok (.iload_n 2, 1) := by decide +kernel
theorem dL_act_184 : decode cL_act 184 = .ok (.iconst 3, 1) := by decide +kernel
theorem dL_act_185 : decode cL_act 185 = .ok (.ishr, 1) := by decide +kernel
theorem dL_act_186 : decode cL_act 186 = .ok (.iload_n 3, 1) := by decide +kernel
theorem dL_act_187 : decode cL_act 187 = .ok (.invokestatic 19, 3) := by decide +kernel
theorem dL_act_190 : decode cL_act 190 = .ok (.istore 7, 2) := by decide +kernel
theorem dL_act_192 : decode cL_act 192 = .ok (.iconst 1, 1) := by decide +kernel
theorem dL_act_193 : decode cL_act 193 = .ok (.iload_n 2, 1) := by decide +kernel
theorem dL_act_194 : decode cL_act 194 = .ok (.iconst 5, 1) := by decide +kernel
theorem dL_act_195 : decode cL_act 195 = .ok (.ishr, 1) := by decide +kernel
theorem dL_act_196 : decode cL_act 196 = .ok (.bipush 9, 2) := by decide +kernel
theorem dL_act_198 : decode cL_act 198 = .ok (.invokestatic 19, 3) := by decide +kernel
theorem dL_act_201 : decode cL_act 201 = .ok (.iadd, 1) := by decide +kernel
theorem dL_act_202 : decode cL_act 202 = .ok (.istore 8, 2) := by decide +kernel
theorem dL_act_204 : decode cL_act 204 = .ok (.aload_n 1, 1) := by decide +kernel
theorem dL_act_205 : decode cL_act 205 = .ok (.iload 7, 2) := by decide +kernel
theorem dL_act_207 : decode cL_act 207 = .ok (.invokevirtual 41, 3) := by decide +kernel
theorem dL_act_210 : decode cL_act 210 = .ok (.istore 9, 2) := by decide +kernel
theorem dL_act_212 : decode cL_act 212 = .ok (.iload 5, 2) := by decide +kernel
theorem dL_act_214 : decode cL_act 214 = .ok (.bipush 8, 2) := by decide +kernel
theorem dL_act_216 : decode cL_act 216 = .ok (.if_icmp .ge 73, 3) := by decide +kernel
theorem dL_act_219 : decode cL_act 219 = .ok (.aload_n 1, 1) := by decide +kernel
theorem dL_act_220 : decode cL_act 220 = .ok (.getfield 45, 3) := by decide +kernel
theorem dL_act_223 : decode cL_act 223 = .ok (.iload 6, 2) := by decide +kernel
theorem dL_act_225 : decode cL_act 225 = .ok (.aaload, 1) := by decide +kernel
theorem dL_act_226 : decode cL_act 226 = .ok (.iload 7, 2) := by decide +kernel
theorem dL_act_228 : decode cL_act 228 = .ok (.iaload, 1) := by decide +kernel
theorem dL_act_229 : decode cL_act 229 = .ok (.iload 8, 2) := by decide +kernel
theorem dL_act_231 : decode cL_act 231 = .ok (.iadd, 1) := by decide +kernel
theorem dL_act_232 : decode cL_act 232 = .ok (.bipush 9, 2) := by decide +kernel
theorem dL_act_234 : decode cL_act 234 = .ok (.if_icmp .gt 18, 3) := by decide +kernel
theorem dL_act_237 : decode cL_act 237 = .ok (.aload_n 1, 1) := by decide +kernel
theorem dL_act_238 : decode cL_act 238 = .ok (.getfield 15, 3) := by decide +kernel
theorem dL_act_241 : decode cL_act 241 = .ok (.iload 6, 2) := by decide +kernel
theorem dL_act_243 : decode cL_act 243 = .ok (.iaload, 1) := by decide +kernel
theorem dL_act_244 : decode cL_act 244 = .ok (.iload 9, 2) := by decide +kernel
theorem dL_act_246 : decode cL_act 246 = .ok (.iload 8, 2) := by decide +kernel
theorem dL_act_248 : decode cL_act 248 = .ok (.imul, 1) := by decide +kernel
theorem dL_act_249 : decode cL_act 249 = .ok (.if_icmp .ge 5, 3) := by decide +kernel
theorem dL_act_252 : decode cL_act 252 = .ok (.iconst 1, 1) := by decide +kernel
theorem dL_act_253 : decode cL_act 253 = .ok (.ireturn, 1) := by decide +kernel
theorem dL_act_254 : decode cL_act 254 = .ok (.aload_n 1, 1) := by decide +kernel
theorem dL_act_255 : decode cL_act 255 = .ok (.iload 6, 2) := by decide +kernel
theorem dL_act_257 : decode cL_act 257 = .ok (.iload 7, 2) := by decide +kernel
theorem dL_act_259 : decode cL_act 259 = .ok (.iload 8, 2) := by decide +kernel
theorem dL_act_261 : decode cL_act 261 = .ok (.ineg, 1) := by decide +kernel
theorem dL_act_262 : decode cL_act 262 = .ok (.invokevirtual 48, 3) := by decide +kernel
theorem dL_act_265 : decode cL_act 265 = .ok (.aload_n 0, 1) := by decide +kernel
theorem dL_act_266 : decode cL_act 266 = .ok (.iload 6, 2) := by decide +kernel
theorem dL_act_268 : decode cL_act 268 = .ok (.iload 7, 2) := by decide +kernel
theorem dL_act_270 : decode cL_act 270 = .ok (.iload 8, 2) := by decide +kernel
theorem dL_act_272 : decode cL_act 272 = .ok (.invokevirtual 52, 3) := by decide +kernel
theorem dL_act_275 : decode cL_act 275 = .ok (.iload 9, 2) := by decide +kernel
theorem dL_act_277 : decode cL_act 277 = .ok (.iload 8, 2) := by decide +kernel
theorem dL_act_279 : decode cL_act 279 = .ok (.imul, 1) := by decide +kernel
theorem dL_act_280 : decode cL_act 280 = .ok (.if_icmp .ne 7, 3) := by decide +kernel
theorem dL_act_283 : decode cL_act 283 = .ok (.iconst 1, 1) := by decide +kernel
theorem dL_act_284 : decode cL_act 284 = .ok (.goto 4, 3) := by decide +kernel
theorem dL_act_287 : decode cL_act 287 = .ok (.iconst 0, 1) := by decide +kernel
theorem dL_act_288 : decode cL_act 288 = .ok (.ireturn, 1) := by decide +kernel
theorem dL_act_289 : decode cL_act 289 = .ok (.iload 5, 2) := by decide +kernel
theorem dL_act_291 : decode cL_act 291 = .ok (.bipush 13, 2) := by decide +kernel
theorem dL_act_293 : decode cL_act 293 = .ok (.if_icmp .ge 57, 3) := by decide +kernel
theorem dL_act_296 : decode cL_act 296 = .ok (.aload_n 1, 1) := by decide +kernel
theorem dL_act_297 : decode cL_act 297 = .ok (.getfield 45, 3) := by decide +kernel
theorem dL_act_300 : decode cL_act 300 = .ok (.iload 6, 2) := by decide +kernel
theorem dL_act_302 : decode cL_act 302 = .ok (.aaload, 1) := by decide +kernel
theorem dL_act_303 : decode cL_act 303 = .ok (.iload 7, 2) := by decide +kernel
theorem dL_act_305 : decode cL_act 305 = .ok (.iaload, 1) := by decide +kernel
theorem dL_act_306 : decode cL_act 306 = .ok (.iload 8, 2) := by decide +kernel
theorem dL_act_308 : decode cL_act 308 = .ok (.isub, 1) := by decide +kernel
theorem dL_act_309 : decode cL_act 309 = .ok (.bipush (-9), 2) := by decide +kernel
theorem dL_act_311 : decode cL_act 311 = .ok (.if_icmp .ge 5, 3) := by decide +kernel
theorem dL_act_314 : decode cL_act 314 = .ok (.iconst 1, 1) := by decide +kernel
theorem dL_act_315 : decode cL_act 315 = .ok (.ireturn, 1) := by decide +kernel
theorem dL_act_316 : decode cL_act 316 = .ok (.aload_n 1, 1) := by decide +kernel
theorem dL_act_317 : decode cL_act 317 = .ok (.iload 6, 2) := by decide +kernel
theorem dL_act_319 : decode cL_act 319 = .ok (.iload 7, 2) := by decide +kernel
theorem dL_act_321 : decode cL_act 321 = .ok (.iload 8, 2) := by decide +kernel
theorem dL_act_323 : decode cL_act 323 = .ok (.invokevirtual 48, 3) := by decide +kernel
theorem dL_act_326 : decode cL_act 326 = .ok (.aload_n 0, 1) := by decide +kernel
theorem dL_act_327 : decode cL_act 327 = .ok (.iload 6, 2) := by decide +kernel
theorem dL_act_329 : decode cL_act 329 = .ok (.iload 7, 2) := by decide +kernel
theorem dL_act_331 : decode cL_act 331 = .ok (.iload 8, 2) := by decide +kernel
theorem dL_act_333 : decode cL_act 333 = .ok (.invokevirtual 55, 3) := by decide +kernel
theorem dL_act_336 : decode cL_act 336 = .ok (.iload 9, 2) := by decide +kernel
theorem dL_act_338 : decode cL_act 338 = .ok (.iload 8, 2) := by decide +kernel
theorem dL_act_340 : decode cL_act 340 = .ok (.imul, 1) := by decide +kernel
theorem dL_act_341 : decode cL_act 341 = .ok (.if_icmp .ne 7, 3) := by decide +kernel
theorem dL_act_344 : decode cL_act 344 = .ok (.iconst 1, 1) := by decide +kernel
theorem dL_act_345 : decode cL_act 345 = .ok (.goto 4, 3) := by decide +kernel
theorem dL_act_348 : decode cL_act 348 = .ok (.iconst 0, 1) := by decide +kernel
theorem dL_act_349 : decode cL_act 349 = .ok (.ireturn, 1) := by decide +kernel
theorem dL_act_350 : decode cL_act 350 = .ok (.iconst 1, 1) := by decide +kernel
theorem dL_act_351 : decode cL_act 351 = .ok (.iload_n 2, 1) := by decide +kernel
theorem dL_act_352 : decode cL_act 352 = .ok (.iconst 2, 1) := by decide +kernel
theorem dL_act_353 : decode cL_act 353 = .ok (.ishr, 1) := by decide +kernel
theorem dL_act_354 : decode cL_act 354 = .ok (.iload_n 2, 1) := by decide +kernel
theorem dL_act_355 : decode cL_act 355 = .ok (.bipush 6, 2) := by decide +kernel
theorem dL_act_357 : decode cL_act 357 = .ok (.invokestatic 19, 3) := by decide +kernel
theorem dL_act_360 : decode cL_act 360 = .ok (.ifCond .ne 8, 3) := by decide +kernel
theorem dL_act_363 : decode cL_act 363 = .ok (.bipush 60, 2) := by decide +kernel
theorem dL_act_365 : decode cL_act 365 = .ok (.goto 4, 3) := by decide +kernel
theorem dL_act_368 : decode cL_act 368 = .ok (.iconst 4, 1) := by decide +kernel
theorem dL_act_369 : decode cL_act 369 = .ok (.invokestatic 19, 3) := by decide +kernel
theorem dL_act_372 : decode cL_act 372 = .ok (.iadd, 1) := by decide +kernel
theorem dL_act_373 : decode cL_act 373 = .ok (.istore 10, 2) := by decide +kernel
theorem dL_act_375 : decode cL_act 375 = .ok (.aload_n 0, 1) := by decide +kernel
theorem dL_act_376 : decode cL_act 376 = .ok (.iload 10, 2) := by decide +kernel
theorem dL_act_378 : decode cL_act 378 = .ok (.invokevirtual 57, 3) := by decide +kernel
theorem dL_act_381 : decode cL_act 381 = .ok (.aload_n 1, 1) := by decide +kernel
theorem dL_act_382 : decode cL_act 382 = .ok (.iload 10, 2) := by decide +kernel
theorem dL_act_384 : decode cL_act 384 = .ok (.invokevirtual 60, 3) := by decide +kernel
theorem dL_act_387 : decode cL_act 387 = .ok (.if_icmp .ne 7, 3) := by decide +kernel
theorem dL_act_390 : decode cL_act 390 = .ok (.iconst 1, 1) := by decide +kernel
theorem dL_act_391 : decode cL_act 391 = .ok (.goto 4, 3) := by decide +kernel
theorem dL_act_394 : decode cL_act 394 = .ok (.iconst 0, 1) := by decide +kernel
theorem dL_act_395 : decode cL_act 395 = .ok (.ireturn, 1) := by decide +kernel
theorem dL_build_0 : decode cL_build 0 = .ok (.new 10, 3) := by decide +kernel
theorem dL_build_3 : decode cL_build 3 = .ok (.dup, 1) := by decide +kernel
theorem dL_build_4 : decode cL_build 4 = .ok (.invokespecial 63, 3) := by decide +kernel
theorem dL_build_7 : decode cL_build 7 = .ok (.astore_n 2, 1) := by decide +kernel
theorem dL_build_8 : decode cL_build 8 = .ok (.bipush 12, 2) := by decide +kernel
theorem dL_build_10 : decode cL_build 10 = .ok (.aload_n 1, 1) := by decide +kernel
theorem dL_build_11 : decode cL_build 11 = .ok (.iconst 0, 1) := by decide +kernel
theorem dL_build_12 : decode cL_build 12 = .ok (.invokestatic 64, 3) := by decide +kernel
theorem dL_build_15 : decode cL_build 15 = .ok (.bipush 44, 2) := by decide +kernel
theorem dL_build_17 : decode cL_build 17 = .ok (.invokestatic 19, 3) := by decide +kernel
theorem dL_build_20 : decode cL_build 20 = .ok (.iadd, 1) := by decide +kernel
theorem dL_build_21 : decode cL_build 21 = .ok (.istore_n 3, 1) := by decide +kernel
theorem dL_build_22 : decode cL_build 22 = .ok (.iconst 0, 1) := by decide +kernel
theorem dL_build_23 : decode cL_build 23 = .ok (.istore 4, 2) := by decide +kernel
theorem dL_build_25 : decode cL_build 25 = .ok (.iload 4, 2) := by decide +kernel
theorem dL_build_27 : decode cL_build 27 = .ok (.iload_n 3, 1) := by decide +kernel
theorem dL_build_28 : decode cL_build 28 = .ok (.if_icmp .ge 43, 3) := by decide +kernel
theorem dL_build_31 : decode cL_build 31 = .ok (.aload_n 0, 1) := by decide +kernel
theorem dL_build_32 : decode cL_build 32 = .ok (.aload_n 2, 1) := by decide +kernel
theorem dL_build_33 : decode cL_build 33 = .ok (.aload_n 1, 1) := by decide +kernel
theorem dL_build_34 : decode cL_build 34 = .ok (.iload 4, 2) := by decide +kernel
theorem dL_build_36 : decode cL_build 36 = .ok (.bipush 16, 2) := by decide +kernel
theorem dL_build_38 : decode cL_build 38 = .ok (.irem, 1) := by decide +kernel
theorem dL_build_39 : decode cL_build 39 = .ok (.invokestatic 64, 3) := by decide +kernel
theorem dL_build_42 : decode cL_build 42 = .ok (.iload 4, 2) := by decide +kernel
theorem dL_build_44 : decode cL_build 44 = .ok (.bipush 16, 2) := by decide +kernel
theorem dL_build_46 : decode cL_build 46 = .ok (.idiv, 1) := by decide +kernel
theorem dL_build_47 : decode cL_build 47 = .ok (.iconst 3, 1) := by decide +kernel
theorem dL_build_48 : decode cL_build 48 = .ok (.imul, 1) := by decide +kernel
theorem dL_build_49 : decode cL_build 49 = .ok (.ishr, 1) := by decide +kernel
theorem dL_build_50 : decode cL_build 50 = .ok (.sipush 643, 3) := by decide +kernel
theorem dL_build_53 : decode cL_build 53 = .ok (.iload 4, 2) := by decide +kernel
theorem dL_build_55 : decode cL_build 55 = .ok (.imul, 1) := by decide +kernel
theorem dL_build_56 : decode cL_build 56 = .ok (.iadd, 1) := by decide +kernel
theorem dL_build_57 : decode cL_build 57 = .ok (.invokestatic 68, 3) := by decide +kernel
theorem dL_build_60 : decode cL_build 60 = .ok (.ifCond .ne 5, 3) := by decide +kernel
theorem dL_build_63 : decode cL_build 63 = .ok (.aconst_null, 1) := by decide +kernel
theorem dL_build_64 : decode cL_build 64 = .ok (.areturn, 1) := by decide +kernel
theorem dL_build_65 : decode cL_build 65 = .ok (.iinc 4 1, 3) := by decide +kernel
theorem dL_build_68 : decode cL_build 68 = .ok (.goto (-43), 3) := by decide +kernel
theorem dL_build_71 : decode cL_build 71 = .ok (.aload_n 2, 1) := by decide +kernel
theorem dL_build_72 : decode cL_build 72 = .ok (.areturn, 1) := by decide +kernel
theorem dL_law_0 : decode cL_law 0 = .ok (.new 30, 3) := by decide +kernel
theorem dL_law_3 : decode cL_law 3 = .ok (.dup, 1) := by decide +kernel
theorem dL_law_4 : decode cL_law 4 = .ok (.invokespecial 72, 3) := by decide +kernel
theorem dL_law_7 : decode cL_law 7 = .ok (.astore_n 1, 1) := by decide +kernel
theorem dL_law_8 : decode cL_law 8 = .ok (.aload_n 1, 1) := by decide +kernel
theorem dL_law_9 : decode cL_law 9 = .ok (.aload_n 0, 1) := by decide +kernel
theorem dL_law_10 : decode cL_law 10 = .ok (.invokestatic 73, 3) := by decide +kernel
theorem dL_law_13 : decode cL_law 13 = .ok (.astore_n 2, 1) := by decide +kernel
theorem dL_law_14 : decode cL_law 14 = .ok (.aload_n 2, 1) := by decide +kernel
theorem dL_law_15 : decode cL_law 15 = .ok (.ifnonnull 5, 3) := by decide +kernel
theorem dL_law_18 : decode cL_law 18 = .ok (.iconst 0, 1) := by decide +kernel
theorem dL_law_19 : decode cL_law 19 = .ok (.ireturn, 1) := by decide +kernel
theorem dL_law_20 : decode cL_law 20 = .ok (.iconst 0, 1) := by decide +kernel
theorem dL_law_21 : decode cL_law 21 = .ok (.istore_n 3, 1) := by decide +kernel
theorem dL_law_22 : decode cL_law 22 = .ok (.iload_n 3, 1) := by decide +kernel
theorem dL_law_23 : decode cL_law 23 = .ok (.bipush 36, 2) := by decide +kernel
theorem dL_law_25 : decode cL_law 25 = .ok (.if_icmp .ge 912, 3) := by decide +kernel
theorem dL_law_28 : decode cL_law 28 = .ok (.aload_n 0, 1) := by decide +kernel
theorem dL_law_29 : decode cL_law 29 = .ok (.iload_n 3, 1) := by decide +kernel
theorem dL_law_30 : decode cL_law 30 = .ok (.bipush 16, 2) := by decide +kernel
theorem dL_law_32 : decode cL_law 32 = .ok (.irem, 1) := by decide +kernel
theorem dL_law_33 : decode cL_law 33 = .ok (.invokestatic 64, 3) := by decide +kernel
theorem dL_law_36 : decode cL_law 36 = .ok (.iload_n 3, 1) := by decide +kernel
theorem dL_law_37 : decode cL_law 37 = .ok (.bipush 16, 2) := by decide +kernel
theorem dL_law_39 : decode cL_law 39 = .ok (.idiv, 1) := by decide +kernel
theorem dL_law_40 : decode cL_law 40 = .ok (.iconst 3, 1) := by decide +kernel
theorem dL_law_41 : decode cL_law 41 = .ok (.imul, 1) := by decide +kernel
theorem dL_law_42 : decode cL_law 42 = .ok (.ishr, 1) := by decide +kernel
theorem dL_law_43 : decode cL_law 43 = .ok (.sipush 643, 3) := by decide +kernel
theorem dL_law_46 : decode cL_law 46 = .ok (.iload_n 3, 1) := by decide +kernel
theorem dL_law_47 : decode cL_law 47 = .ok (.imul, 1) := by decide +kernel
theorem dL_law_48 : decode cL_law 48 = .ok (.iadd, 1) := by decide +kernel
theorem dL_law_49 : decode cL_law 49 = .ok (.istore 4, 2) := by decide +kernel
theorem dL_law_51 : decode cL_law 51 = .ok (.aload_n 1, 1) := by decide +kernel
theorem dL_law_52 : decode cL_law 52 = .ok (.aload_n 2, 1) := by decide +kernel
theorem dL_law_53 : decode cL_law 53 = .ok (.iload 4, 2) := by decide +kernel
theorem dL_law_55 : decode cL_law 55 = .ok (.invokestatic 68, 3) := by decide +kernel
theorem dL_law_58 : decode cL_law 58 = .ok (.ifCond .ne 5, 3) := by decide +kernel
theorem dL_law_61 : decode cL_law 61 = .ok (.iconst 0, 1) := by decide +kernel
theorem dL_law_62 : decode cL_law 62 = .ok (.ireturn, 1) := by decide +kernel
theorem dL_law_63 : decode cL_law 63 = .ok (.aload_n 1, 1) := by decide +kernel
theorem dL_law_64 : decode cL_law 64 = .ok (.invokevirtual 77, 3) := by decide +kernel
theorem dL_law_67 : decode cL_law 67 = .ok (.istore 5, 2) := by decide +kernel
theorem dL_law_69 : decode cL_law 69 = .ok (.aload_n 1, 1) := by decide +kernel
theorem dL_law_70 : decode cL_law 70 = .ok (.invokevirtual 79, 3) := by decide +kernel
theorem dL_law_73 : decode cL_law 73 = .ok (.istore 6, 2) := by decide +kernel
theorem dL_law_75 : decode cL_law 75 = .ok (.iload 5, 2) := by decide +kernel
theorem dL_law_77 : decode cL_law 77 = .ok (.newarray .int, 2) := by decide +kernel
theorem dL_law_79 : decode cL_law 79 = .ok (.astore 7, 2) := by decide +kernel
theorem dL_law_81 : decode cL_law 81 = .ok (.iload 5, 2) := by decide +kernel
theorem dL_law_83 : decode cL_law 83 = .ok (.newarray .int, 2) := by decide +kernel
theorem dL_law_85 : decode cL_law 85 = .ok (.astore 8, 2) := by decide +kernel
theorem dL_law_87 : decode cL_law 87 = .ok (.iload 5, 2) := by decide +kernel
theorem dL_law_89 : decode cL_law 89 = .ok (.newarray .int, 2) := by decide +kernel
theorem dL_law_91 : decode cL_law 91 = .ok (.astore 9, 2) := by decide +kernel
theorem dL_law_93 : decode cL_law 93 = .ok (.iload 5, 2) := by decide +kernel
theorem dL_law_95 : decode cL_law 95 = .ok (.newarray .int, 2) := by decide +kernel
theorem dL_law_97 : decode cL_law 97 = .ok (.astore 10, 2) := by decide +kernel
theorem dL_law_99 : decode cL_law 99 = .ok (.iload 5, 2) := by decide +kernel
theorem dL_law_101 : decode cL_law 101 = .ok (.newarray .int, 2) := by decide +kernel
theorem dL_law_103 : decode cL_law 103 = .ok (.astore 11, 2) := by decide +kernel
theorem dL_law_105 : decode cL_law 105 = .ok (.iload 6, 2) := by decide +kernel
theorem dL_law_107 : decode cL_law 107 = .ok (.iload 5, 2) := by decide +kernel
theorem dL_law_109 : decode cL_law 109 = .ok (.multianewarray 82 2, 4) := by decide +kernel
theorem dL_law_113 : decode cL_law 113 = .ok (.astore 12, 2) := by decide +kernel
theorem dL_law_115 : decode cL_law 115 = .ok (.iconst 0, 1) := by decide +kernel
theorem dL_law_116 : decode cL_law 116 = .ok (.istore 13, 2) := by decide +kernel
theorem dL_law_118 : decode cL_law 118 = .ok (.bipush 99, 2) := by decide +kernel
theorem dL_law_120 : decode cL_law 120 = .ok (.istore 14, 2) := by decide +kernel
theorem dL_law_122 : decode cL_law 122 = .ok (.iconst 0, 1) := by decide +kernel
theorem dL_law_123 : decode cL_law 123 = .ok (.istore 15, 2) := by decide +kernel
theorem dL_law_125 : decode cL_law 125 = .ok (.iconst 0, 1) := by decide +kernel
theorem dL_law_126 : decode cL_law 126 = .ok (.istore 16, 2) := by decide +kernel
theorem dL_law_128 : decode cL_law 128 = .ok (.iconst 0, 1) := by decide +kernel
theorem dL_law_129 : decode cL_law 129 = .ok (.istore 17, 2) := by decide +kernel
theorem dL_law_131 : decode cL_law 131 = .ok (.iconst 0, 1) := by decide +kernel
theorem dL_law_132 : decode cL_law 132 = .ok (.istore 18, 2) := by decide +kernel
theorem dL_law_134 : decode cL_law 134 = .ok (.iconst 0, 1) := by decide +kernel
theorem dL_law_135 : decode cL_law 135 = .ok (.istore 19, 2) := by decide +kernel
theorem dL_law_137 : decode cL_law 137 = .ok (.iload 19, 2) := by decide +kernel
theorem dL_law_139 : decode cL_law 139 = .ok (.iload 5, 2) := by decide +kernel
theorem dL_law_141 : decode cL_law 141 = .ok (.if_icmp .ge 361, 3) := by decide +kernel
theorem dL_law_144 : decode cL_law 144 = .ok (.aload 7, 2) := by decide +kernel
theorem dL_law_146 : decode cL_law 146 = .ok (.iload 19, 2) := by decide +kernel
theorem dL_law_148 : decode cL_law 148 = .ok (.aload_n 1, 1) := by decide +kernel
theorem dL_law_149 : decode cL_law 149 = .ok (.iload 19, 2) := by decide +kernel
theorem dL_law_151 : decode cL_law 151 = .ok (.invokevirtual 83, 3) := by decide +kernel
theorem dL_law_154 : decode cL_law 154 = .ok (.iastore, 1) := by decide +kernel
theorem dL_law_155 : decode cL_law 155 = .ok (.aload 8, 2) := by decide +kernel
theorem dL_law_157 : decode cL_law 157 = .ok (.iload 19, 2) := by decide +kernel
theorem dL_law_159 : decode cL_law 159 = .ok (.aload_n 1, 1) := by decide +kernel
theorem dL_law_160 : decode cL_law 160 = .ok (.iload 19, 2) := by decide +kernel
theorem dL_law_162 : decode cL_law 162 = .ok (.invokevirtual 86, 3) := by decide +kernel
theorem dL_law_165 : decode cL_law 165 = .ok (.iastore, 1) := by decide +kernel
theorem dL_law_166 : decode cL_law 166 = .ok (.aload 9, 2) := by decide +kernel
theorem dL_law_168 : decode cL_law 168 = .ok (.iload 19, 2) := by decide +kernel
theorem dL_law_170 : decode cL_law 170 = .ok (.aload_n 1, 1) := by decide +kernel
theorem dL_law_171 : decode cL_law 171 = .ok (.iload 19, 2) := by decide +kernel
theorem dL_law_173 : decode cL_law 173 = .ok (.invokevirtual 89, 3) := by decide +kernel
theorem dL_law_176 : decode cL_law 176 = .ok (.iastore, 1) := by decide +kernel
theorem dL_law_177 : decode cL_law 177 = .ok (.aload 10, 2) := by decide +kernel
theorem dL_law_179 : decode cL_law 179 = .ok (.iload 19, 2) := by decide +kernel
theorem dL_law_181 : decode cL_law 181 = .ok (.aload_n 1, 1) := by decide +kernel
theorem dL_law_182 : decode cL_law 182 = .ok (.iload 19, 2) := by decide +kernel
theorem dL_law_184 : decode cL_law 184 = .ok (.invokevirtual 92, 3) := by decide +kernel
theorem dL_law_187 : decode cL_law 187 = .ok (.iastore, 1) := by decide +kernel
theorem dL_law_188 : decode cL_law 188 = .ok (.aload 11, 2) := by decide +kernel
theorem dL_law_190 : decode cL_law 190 = .ok (.iload 19, 2) := by decide +kernel
theorem dL_law_192 : decode cL_law 192 = .ok (.aload_n 1, 1) := by decide +kernel
theorem dL_law_193 : decode cL_law 193 = .ok (.iload 19, 2) := by decide +kernel
theorem dL_law_195 : decode cL_law 195 = .ok (.invokevirtual 95, 3) := by decide +kernel
theorem dL_law_198 : decode cL_law 198 = .ok (.iastore, 1) := by decide +kernel
theorem dL_law_199 : decode cL_law 199 = .ok (.iconst 0, 1) := by decide +kernel
theorem dL_law_200 : decode cL_law 200 = .ok (.istore 20, 2) := by decide +kernel
theorem dL_law_202 : decode cL_law 202 = .ok (.iconst 0, 1) := by decide +kernel
theorem dL_law_203 : decode cL_law 203 = .ok (.istore 21, 2) := by decide +kernel
theorem dL_law_205 : decode cL_law 205 = .ok (.iconst 0, 1) := by decide +kernel
theorem dL_law_206 : decode cL_law 206 = .ok (.istore 22, 2) := by decide +kernel
theorem dL_law_208 : decode cL_law 208 = .ok (.iload 22, 2) := by decide +kernel
theorem dL_law_210 : decode cL_law 210 = .ok (.iload 6, 2) := by decide +kernel
theorem dL_law_212 : decode cL_law 212 = .ok (.if_icmp .ge 95, 3) := by decide +kernel
theorem dL_law_215 : decode cL_law 215 = .ok (.aload 12, 2) := by decide +kernel
theorem dL_law_217 : decode cL_law 217 = .ok (.iload 22, 2) := by decide +kernel
theorem dL_law_219 : decode cL_law 219 = .ok (.aaload, 1) := by decide +kernel
theorem dL_law_220 : decode cL_law 220 = .ok (.iload 19, 2) := by decide +kernel
theorem dL_law_222 : decode cL_law 222 = .ok (.aload_n 1, 1) := by decide +kernel
theorem dL_law_223 : decode cL_law 223 = .ok (.iload 22, 2) := by decide +kernel
theorem dL_law_225 : decode cL_law 225 = .ok (.iload 19, 2) := by decide +kernel
theorem dL_law_227 : decode cL_law 227 = .ok (.invokevirtual 98, 3) := by decide +kernel
theorem dL_law_230 : decode cL_law 230 = .ok (.iastore, 1) := by decide +kernel
theorem dL_law_231 : decode cL_law 231 = .ok (.iload 20, 2) := by decide +kernel
theorem dL_law_233 : decode cL_law 233 = .ok (.aload 12, 2) := by decide +kernel
theorem dL_law_235 : decode cL_law 235 = .ok (.iload 22, 2) := by decide +kernel
theorem dL_law_237 : decode cL_law 237 = .ok (.aaload, 1) := by decide +kernel
theorem dL_law_238 : decode cL_law 238 = .ok (.iload 19, 2) := by decide +kernel
theorem dL_law_240 : decode cL_law 240 = .ok (.iaload, 1) := by decide +kernel
theorem dL_law_241 : decode cL_law 241 = .ok (.ifCond .ge 15, 3) := by decide +kernel
theorem dL_law_244 : decode cL_law 244 = .ok (.aload 12, 2) := by decide +kernel
theorem dL_law_246 : decode cL_law 246 = .ok (.iload 22, 2) := by decide +kernel
theorem dL_law_248 : decode cL_law 248 = .ok (.aaload, 1) := by decide +kernel
theorem dL_law_249 : decode cL_law 249 = .ok (.iload 19, 2) := by decide +kernel
theorem dL_law_251 : decode cL_law 251 = .ok (.iaload, 1) := by decide +kernel
theorem dL_law_252 : decode cL_law 252 = .ok (.ineg, 1) := by decide +kernel
theorem dL_law_253 : decode cL_law 253 = .ok (.goto 4, 3) := by decide +kernel
theorem dL_law_256 : decode cL_law 256 = .ok (.iconst 0, 1) := by decide +kernel
theorem dL_law_257 : decode cL_law 257 = .ok (.iadd, 1) := by decide +kernel
theorem dL_law_258 : decode cL_law 258 = .ok (.istore 20, 2) := by decide +kernel
theorem dL_law_260 : decode cL_law 260 = .ok (.iload 21, 2) := by decide +kernel
theorem dL_law_262 : decode cL_law 262 = .ok (.aload 12, 2) := by decide +kernel
theorem dL_law_264 : decode cL_law 264 = .ok (.iload 22, 2) := by decide +kernel
theorem dL_law_266 : decode cL_law 266 = .ok (.aaload, 1) := by decide +kernel
theorem dL_law_267 : decode cL_law 267 = .ok (.iload 19, 2) := by decide +kernel
theorem dL_law_269 : decode cL_law 269 = .ok (.iaload, 1) := by decide +kernel
theorem dL_law_270 : decode cL_law 270 = .ok (.iadd, 1) := by decide +kernel
theorem dL_law_271 : decode cL_law 271 = .ok (.istore 21, 2) := by decide +kernel
theorem dL_law_273 : decode cL_law 273 = .ok (.aload 12, 2) := by decide +kernel
theorem dL_law_275 : decode cL_law 275 = .ok (.iload 22, 2) := by decide +kernel
theorem dL_law_277 : decode cL_law 277 = .ok (.aaload, 1) := by decide +kernel
theorem dL_law_278 : decode cL_law 278 = .ok (.iload 19, 2) := by decide +kernel
theorem dL_law_280 : decode cL_law 280 = .ok (.iaload, 1) := by decide +kernel
theorem dL_law_281 : decode cL_law 281 = .ok (.bipush (-9), 2) := by decide +kernel
theorem dL_law_283 : decode cL_law 283 = .ok (.if_icmp .lt 16, 3) := by decide +kernel
theorem dL_law_286 : decode cL_law 286 = .ok (.aload 12, 2) := by decide +kernel
theorem dL_law_288 : decode cL_law 288 = .ok (.iload 22, 2) := by decide +kernel
theorem dL_law_290 : decode cL_law 290 = .ok (.aaload, 1) := by decide +kernel
theorem dL_law_291 : decode cL_law 291 = .ok (.iload 19, 2) := by decide +kernel
theorem dL_law_293 : decode cL_law 293 = .ok (.iaload, 1) := by decide +kernel
theorem dL_law_294 : decode cL_law 294 = .ok (.bipush 9, 2) := by decide +kernel
theorem dL_law_296 : decode cL_law 296 = .ok (.if_icmp .le 5, 3) := by decide +kernel
theorem dL_law_299 : decode cL_law 299 = .ok (.iconst 0, 1) := by decide +kernel
theorem dL_law_300 : decode cL_law 300 = .ok (.ireturn, 1) := by decide +kernel
theorem dL_law_301 : decode cL_law 301 = .ok (.iinc 22 1, 3) := by decide +kernel
theorem dL_law_304 : decode cL_law 304 = .ok (.goto (-96), 3) := by decide +kernel
theorem dL_law_307 : decode cL_law 307 = .ok (.aload 7, 2) := by decide +kernel
theorem dL_law_309 : decode cL_law 309 = .ok (.iload 19, 2) := by decide +kernel
theorem dL_law_311 : decode cL_law 311 = .ok (.iaload, 1) := by decide +kernel
theorem dL_law_312 : decode cL_law 312 = .ok (.ifCond .lt 127, 3) := by decide +kernel
theorem dL_law_315 : decode cL_law 315 = .ok (.aload 8, 2) := by decide +kernel
theorem dL_law_317 : decode cL_law 317 = .ok (.iload 19, 2) := by decide +kernel
theorem dL_law_319 : decode cL_law 319 = .ok (.iaload, 1) := by decide +kernel
theorem dL_law_320 : decode cL_law 320 = .ok (.ifCond .lt 119, 3) := by decide +kernel
theorem dL_law_323 : decode cL_law 323 = .ok (.aload 8, 2) := by decide +kernel
theorem dL_law_325 : decode cL_law 325 = .ok (.iload 19, 2) := by decide +kernel
theorem dL_law_327 : decode cL_law 327 = .ok (.iaload, 1) := by decide +kernel
theorem dL_law_328 : decode cL_law 328 = .ok (.aload 7, 2) := by decide +kernel
theorem dL_law_330 : decode cL_law 330 = .ok (.iload 19, 2) := by decide +kernel
theorem dL_law_332 : decode cL_law 332 = .ok (.iaload, 1) := by decide +kernel
theorem dL_law_333 : decode cL_law 333 = .ok (.aload_n 2, 1) := by decide +kernel
theorem dL_law_334 : decode cL_law 334 = .ok (.getfield 9, 3) := by decide +kernel
theorem dL_law_337 : decode cL_law 337 = .ok (.iload 19, 2) := by decide +kernel
theorem dL_law_339 : decode cL_law 339 = .ok (.aaload, 1) := by decide +kernel
theorem dL_law_340 : decode cL_law 340 = .ok (.iconst 0, 1) := by decide +kernel
theorem dL_law_341 : decode cL_law 341 = .ok (.iaload, 1) := by decide +kernel
theorem dL_law_342 : decode cL_law 342 = .ok (.imul, 1) := by decide +kernel
theorem dL_law_343 : decode cL_law 343 = .ok (.if_icmp .gt 96, 3) := by decide +kernel
theorem dL_law_346 : decode cL_law 346 = .ok (.aload 9, 2) := by decide +kernel
theorem dL_law_348 : decode cL_law 348 = .ok (.iload 19, 2) := by decide +kernel
theorem dL_law_350 : decode cL_law 350 = .ok (.iaload, 1) := by decide +kernel
theorem dL_law_351 : decode cL_law 351 = .ok (.iconst 1, 1) := by decide +kernel
theorem dL_law_352 : decode cL_law 352 = .ok (.if_icmp .lt 87, 3) := by decide +kernel
theorem dL_law_355 : decode cL_law 355 = .ok (.aload 9, 2) := by decide +kernel
theorem dL_law_357 : decode cL_law 357 = .ok (.iload 19, 2) := by decide +kernel
theorem dL_law_359 : decode cL_law 359 = .ok (.iaload, 1) := by decide +kernel
theorem dL_law_360 : decode cL_law 360 = .ok (.aload_n 2, 1) := by decide +kernel
theorem dL_law_361 : decode cL_law 361 = .ok (.getfield 9, 3) := by decide +kernel
theorem dL_law_364 : decode cL_law 364 = .ok (.iload 19, 2) := by decide +kernel
theorem dL_law_366 : decode cL_law 366 = .ok (.aaload, 1) := by decide +kernel
theorem dL_law_367 : decode cL_law 367 = .ok (.iconst 1, 1) := by decide +kernel
theorem dL_law_368 : decode cL_law 368 = .ok (.iaload, 1) := by decide +kernel
theorem dL_law_369 : decode cL_law 369 = .ok (.if_icmp .gt 70, 3) := by decide +kernel
theorem dL_law_372 : decode cL_law 372 = .ok (.iload 20, 2) := by decide +kernel
theorem dL_law_374 : decode cL_law 374 = .ok (.aload_n 1, 1) := by decide +kernel
theorem dL_law_375 : decode cL_law 375 = .ok (.iload 19, 2) := by decide +kernel
theorem dL_law_377 : decode cL_law 377 = .ok (.invokevirtual 101, 3) := by decide +kernel
theorem dL_law_380 : decode cL_law 380 = .ok (.if_icmp .ne 59, 3) := by decide +kernel
theorem dL_law_383 : decode cL_law 383 = .ok (.iload 21, 2) := by decide +kernel
theorem dL_law_385 : decode cL_law 385 = .ok (.aload 11, 2) := by decide +kernel
theorem dL_law_387 : decode cL_law 387 = .ok (.iload 19, 2) := by decide +kernel
theorem dL_law_389 : decode cL_law 389 = .ok (.iaload, 1) := by decide +kernel
theorem dL_law_390 : decode cL_law 390 = .ok (.if_icmp .ne 49, 3) := by decide +kernel
theorem dL_law_393 : decode cL_law 393 = .ok (.aload 8, 2) := by decide +kernel
theorem dL_law_395 : decode cL_law 395 = .ok (.iload 19, 2) := by decide +kernel
theorem dL_law_397 : decode cL_law 397 = .ok (.iaload, 1) := by decide +kernel
theorem dL_law_398 : decode cL_law 398 = .ok (.iconst 0, 1) := by decide +kernel
theorem dL_law_399 : decode cL_law 399 = .ok (.aload 7, 2) := by decide +kernel
theorem dL_law_401 : decode cL_law 401 = .ok (.iload 19, 2) := by decide +kernel
theorem dL_law_403 : decode cL_law 403 = .ok (.iaload, 1) := by decide +kernel
theorem dL_law_404 : decode cL_law 404 = .ok (.aload_n 2, 1) := by decide +kernel
theorem dL_law_405 : decode cL_law 405 = .ok (.getfield 9, 3) := by decide +kernel
theorem dL_law_408 : decode cL_law 408 = .ok (.iload 19, 2) := by decide +kernel
theorem dL_law_410 : decode cL_law 410 = .ok (.aaload, 1) := by decide +kernel
theorem dL_law_411 : decode cL_law 411 = .ok (.iconst 0, 1) := by decide +kernel
theorem dL_law_412 : decode cL_law 412 = .ok (.iaload, 1) := by decide +kernel
theorem dL_law_413 : decode cL_law 413 = .ok (.imul, 1) := by decide +kernel
theorem dL_law_414 : decode cL_law 414 = .ok (.iconst 2, 1) := by decide +kernel
theorem dL_law_415 : decode cL_law 415 = .ok (.iload 20, 2) := by decide +kernel
theorem dL_law_417 : decode cL_law 417 = .ok (.imul, 1) := by decide +kernel
theorem dL_law_418 : decode cL_law 418 = .ok (.isub, 1) := by decide +kernel
theorem dL_law_419 : decode cL_law 419 = .ok (.invokestatic 104, 3) := by decide +kernel
theorem dL_law_422 : decode cL_law 422 = .ok (.if_icmp .ne 17, 3) := by decide +kernel
theorem dL_law_425 : decode cL_law 425 = .ok (.aload_n 1, 1) := by decide +kernel
theorem dL_law_426 : decode cL_law 426 = .ok (.iload 19, 2) := by decide +kernel
theorem dL_law_428 : decode cL_law 428 = .ok (.invokevirtual 109, 3) := by decide +kernel
theorem dL_law_431 : decode cL_law 431 = .ok (.aload 8, 2) := by decide +kernel
theorem dL_law_433 : decode cL_law 433 = .ok (.iload 19, 2) := by decide +kernel
theorem dL_law_435 : decode cL_law 435 = .ok (.iaload, 1) := by decide +kernel
theorem dL_law_436 : decode cL_law 436 = .ok (.if_icmp .ge 5, 3) := by decide +kernel
theorem dL_law_439 : decode cL_law 439 = .ok (.iconst 0, 1) := by decide +kernel
theorem dL_law_440 : decode cL_law 440 = .ok (.ireturn, 1) := by decide +kernel
theorem dL_law_441 : decode cL_law 441 = .ok (.iload 13, 2) := by decide +kernel
theorem dL_law_443 : decode cL_law 443 = .ok (.aload 8, 2) := by decide +kernel
theorem dL_law_445 : decode cL_law 445 = .ok (.iload 19, 2) := by decide +kernel
theorem dL_law_447 : decode cL_law 447 = .ok (.iaload, 1) := by decide +kernel
theorem dL_law_448 : decode cL_law 448 = .ok (.invokestatic 104, 3) := by decide +kernel
theorem dL_law_451 : decode cL_law 451 = .ok (.istore 13, 2) := by decide +kernel
theorem dL_law_453 : decode cL_law 453 = .ok (.iload 14, 2) := by decide +kernel
theorem dL_law_455 : decode cL_law 455 = .ok (.aload 9, 2) := by decide +kernel
theorem dL_law_457 : decode cL_law 457 = .ok (.iload 19, 2) := by decide +kernel
theorem dL_law_459 : decode cL_law 459 = .ok (.iaload, 1) := by decide +kernel
theorem dL_law_460 : decode cL_law 460 = .ok (.invokestatic 112, 3) := by decide +kernel
theorem dL_law_463 : decode cL_law 463 = .ok (.istore 14, 2) := by decide +kernel
theorem dL_law_465 : decode cL_law 465 = .ok (.aload 9, 2) := by decide +kernel
theorem dL_law_467 : decode cL_law 467 = .ok (.iload 19, 2) := by decide +kernel
theorem dL_law_469 : decode cL_law 469 = .ok (.iaload, 1) := by decide +kernel
theorem dL_law_470 : decode cL_law 470 = .ok (.iconst 1, 1) := by decide +kernel
theorem dL_law_471 : decode cL_law 471 = .ok (.if_icmp .eq 6, 3) := by decide +kernel
theorem dL_law_474 : decode cL_law 474 = .ok (.goto 22, 3) := by decide +kernel
theorem dL_law_477 : decode cL_law 477 = .ok (.iinc 15 1, 3) := by decide +kernel
theorem dL_law_480 : decode cL_law 480 = .ok (.iload 16, 2) := by decide +kernel
theorem dL_law_482 : decode cL_law 482 = .ok (.aload 8, 2) := by decide +kernel
theorem dL_law_484 : decode cL_law 484 = .ok (.iload 19, 2) := by decide +kernel
theorem dL_law_486 : decode cL_law 486 = .ok (.iaload, 1) := by decide +kernel
theorem dL_law_487 : decode cL_law 487 = .ok (.aload 11, 2) := by decide +kernel
theorem dL_law_489 : decode cL_law 489 = .ok (.iload 19, 2) := by decide +kernel
theorem dL_law_491 : decode cL_law 491 = .ok (.iaload, 1) := by decide +kernel
theorem dL_law_492 : decode cL_law 492 = .ok (.imul, 1) := by decide +kernel
theorem dL_law_493 : decode cL_law 493 = .ok (.iadd, 1) := by decide +kernel
theorem dL_law_494 : decode cL_law 494 = .ok (.istore 16, 2) := by decide +kernel
theorem dL_law_496 : decode cL_law 496 = .ok (.iinc 19 1, 3) := by decide +kernel
theorem dL_law_499 : decode cL_law 499 = .ok (.goto (-362), 3) := by decide +kernel
theorem dL_law_502 : decode cL_law 502 = .ok (.iconst 0, 1) := by decide +kernel
theorem dL_law_503 : decode cL_law 503 = .ok (.istore 19, 2) := by decide +kernel
theorem dL_law_505 : decode cL_law 505 = .ok (.iload 19, 2) := by decide +kernel
theorem dL_law_507 : decode cL_law 507 = .ok (.iload 6, 2) := by decide +kernel
theorem dL_law_509 : decode cL_law 509 = .ok (.if_icmp .ge 135, 3) := by decide +kernel
theorem dL_law_512 : decode cL_law 512 = .ok (.aload_n 1, 1) := by decide +kernel
theorem dL_law_513 : decode cL_law 513 = .ok (.iload 19, 2) := by decide +kernel
theorem dL_law_515 : decode cL_law 515 = .ok (.invokevirtual 115, 3) := by decide +kernel
theorem dL_law_518 : decode cL_law 518 = .ok (.istore 20, 2) := by decide +kernel
theorem dL_law_520 : decode cL_law 520 = .ok (.iconst 0, 1) := by decide +kernel
theorem dL_law_521 : decode cL_law 521 = .ok (.istore 21, 2) := by decide +kernel
theorem dL_law_523 : decode cL_law 523 = .ok (.iload 17, 2) := by decide +kernel
theorem dL_law_525 : decode cL_law 525 = .ok (.iload 20, 2) := by decide +kernel
theorem dL_law_527 : decode cL_law 527 = .ok (.iadd, 1) := by decide +kernel
theorem dL_law_528 : decode cL_law 528 = .ok (.istore 17, 2) := by decide +kernel
theorem dL_law_530 : decode cL_law 530 = .ok (.iload 18, 2) := by decide +kernel
theorem dL_law_532 : decode cL_law 532 = .ok (.iload 20, 2) := by decide +kernel
theorem dL_law_534 : decode cL_law 534 = .ok (.ifCond .ge 7, 3) := by decide +kernel
theorem dL_law_537 : decode cL_law 537 = .ok (.iconst 1, 1) := by decide +kernel
theorem dL_law_538 : decode cL_law 538 = .ok (.goto 4, 3) := by decide +kernel
theorem dL_law_541 : decode cL_law 541 = .ok (.iconst 0, 1) := by decide +kernel
theorem dL_law_542 : decode cL_law 542 = .ok (.iadd, 1) := by decide +kernel
theorem dL_law_543 : decode cL_law 543 = .ok (.istore 18, 2) := by decide +kernel
theorem dL_law_545 : decode cL_law 545 = .ok (.iconst 0, 1) := by decide +kernel
theorem dL_law_546 : decode cL_law 546 = .ok (.istore 22, 2) := by decide +kernel
theorem dL_law_548 : decode cL_law 548 = .ok (.iload 22, 2) := by decide +kernel
theorem dL_law_550 : decode cL_law 550 = .ok (.iload 5, 2) := by decide +kernel
theorem dL_law_552 : decode cL_law 552 = .ok (.if_icmp .ge 49, 3) := by decide +kernel
theorem dL_law_555 : decode cL_law 555 = .ok (.iload 20, 2) := by decide +kernel
theorem dL_law_557 : decode cL_law 557 = .ok (.aload 8, 2) := by decide +kernel
theorem dL_law_559 : decode cL_law 559 = .ok (.iload 22, 2) := by decide +kernel
theorem dL_law_561 : decode cL_law 561 = .ok (.iaload, 1) := by decide +kernel
theorem dL_law_562 : decode cL_law 562 = .ok (.aload 12, 2) := by decide +kernel
theorem dL_law_564 : decode cL_law 564 = .ok (.iload 19, 2) := by decide +kernel
theorem dL_law_566 : decode cL_law 566 = .ok (.aaload, 1) := by decide +kernel
theorem dL_law_567 : decode cL_law 567 = .ok (.iload 22, 2) := by decide +kernel
theorem dL_law_569 : decode cL_law 569 = .ok (.iaload, 1) := by decide +kernel
theorem dL_law_570 : decode cL_law 570 = .ok (.imul, 1) := by decide +kernel
theorem dL_law_571 : decode cL_law 571 = .ok (.iadd, 1) := by decide +kernel
theorem dL_law_572 : decode cL_law 572 = .ok (.istore 20, 2) := by decide +kernel
theorem dL_law_574 : decode cL_law 574 = .ok (.iload 21, 2) := by decide +kernel
theorem dL_law_576 : decode cL_law 576 = .ok (.aload 12, 2) := by decide +kernel
theorem dL_law_578 : decode cL_law 578 = .ok (.iload 19, 2) := by decide +kernel
theorem dL_law_580 : decode cL_law 580 = .ok (.aaload, 1) := by decide +kernel
theorem dL_law_581 : decode cL_law 581 = .ok (.iload 22, 2) := by decide +kernel
theorem dL_law_583 : decode cL_law 583 = .ok (.iaload, 1) := by decide +kernel
theorem dL_law_584 : decode cL_law 584 = .ok (.ifCond .ge 7, 3) := by decide +kernel
theorem dL_law_587 : decode cL_law 587 = .ok (.iconst 1, 1) := by decide +kernel
theorem dL_law_588 : decode cL_law 588 = .ok (.goto 4, 3) := by decide +kernel
theorem dL_law_591 : decode cL_law 591 = .ok (.iconst 0, 1) := by decide +kernel
theorem dL_law_592 : decode cL_law 592 = .ok (.iadd, 1) := by decide +kernel
theorem dL_law_593 : decode cL_law 593 = .ok (.istore 21, 2) := by decide +kernel
theorem dL_law_595 : decode cL_law 595 = .ok (.iinc 22 1, 3) := by decide +kernel
theorem dL_law_598 : decode cL_law 598 = .ok (.goto (-50), 3) := by decide +kernel
theorem dL_law_601 : decode cL_law 601 = .ok (.aload_n 1, 1) := by decide +kernel
theorem dL_law_602 : decode cL_law 602 = .ok (.iload 19, 2) := by decide +kernel
theorem dL_law_604 : decode cL_law 604 = .ok (.invokevirtual 118, 3) := by decide +kernel
theorem dL_law_607 : decode cL_law 607 = .ok (.iload 20, 2) := by decide +kernel
theorem dL_law_609 : decode cL_law 609 = .ok (.if_icmp .ne 27, 3) := by decide +kernel
theorem dL_law_612 : decode cL_law 612 = .ok (.aload_n 1, 1) := by decide +kernel
theorem dL_law_613 : decode cL_law 613 = .ok (.iload 19, 2) := by decide +kernel
theorem dL_law_615 : decode cL_law 615 = .ok (.invokevirtual 121, 3) := by decide +kernel
theorem dL_law_618 : decode cL_law 618 = .ok (.iload 21, 2) := by decide +kernel
theorem dL_law_620 : decode cL_law 620 = .ok (.if_icmp .ne 16, 3) := by decide +kernel
theorem dL_law_623 : decode cL_law 623 = .ok (.iload 20, 2) := by decide +kernel
theorem dL_law_625 : decode cL_law 625 = .ok (.aload_n 1, 1) := by decide +kernel
theorem dL_law_626 : decode cL_law 626 = .ok (.aload_n 1, 1) := by decide +kernel
theorem dL_law_627 : decode cL_law 627 = .ok (.invokevirtual 124, 3) := by decide +kernel
theorem dL_law_630 : decode cL_law 630 = .ok (.invokevirtual 118, 3) := by decide +kernel
theorem dL_law_633 : decode cL_law 633 = .ok (.if_icmp .le 5, 3) := by decide +kernel
theorem dL_law_636 : decode cL_law 636 = .ok (.iconst 0, 1) := by decide +kernel
theorem dL_law_637 : decode cL_law 637 = .ok (.ireturn, 1) := by decide +kernel
theorem dL_law_638 : decode cL_law 638 = .ok (.iinc 19 1, 3) := by decide +kernel
theorem dL_law_641 : decode cL_law 641 = .ok (.goto (-136), 3) := by decide +kernel
theorem dL_law_644 : decode cL_law 644 = .ok (.aload_n 1, 1) := by decide +kernel
theorem dL_law_645 : decode cL_law 645 = .ok (.aload_n 1, 1) := by decide +kernel
theorem dL_law_646 : decode cL_law 646 = .ok (.invokevirtual 127, 3) := by decide +kernel
theorem dL_law_649 : decode cL_law 649 = .ok (.invokevirtual 86, 3) := by decide +kernel
theorem dL_law_652 : decode cL_law 652 = .ok (.iload 13, 2) := by decide +kernel
theorem dL_law_654 : decode cL_law 654 = .ok (.if_icmp .ne 34, 3) := by decide +kernel
theorem dL_law_657 : decode cL_law 657 = .ok (.aload_n 1, 1) := by decide +kernel
theorem dL_law_658 : decode cL_law 658 = .ok (.aload_n 1, 1) := by decide +kernel
theorem dL_law_659 : decode cL_law 659 = .ok (.invokevirtual 130, 3) := by decide +kernel
theorem dL_law_662 : decode cL_law 662 = .ok (.invokevirtual 89, 3) := by decide +kernel
theorem dL_law_665 : decode cL_law 665 = .ok (.iload 14, 2) := by decide +kernel
theorem dL_law_667 : decode cL_law 667 = .ok (.if_icmp .ne 21, 3) := by decide +kernel
theorem dL_law_670 : decode cL_law 670 = .ok (.aload_n 1, 1) := by decide +kernel
theorem dL_law_671 : decode cL_law 671 = .ok (.invokevirtual 133, 3) := by decide +kernel
theorem dL_law_674 : decode cL_law 674 = .ok (.iload 18, 2) := by decide +kernel
theorem dL_law_676 : decode cL_law 676 = .ok (.if_icmp .ne 12, 3) := by decide +kernel
theorem dL_law_679 : decode cL_law 679 = .ok (.aload_n 1, 1) := by decide +kernel
theorem dL_law_680 : decode cL_law 680 = .ok (.invokevirtual 136, 3) := by decide +kernel
theorem dL_law_683 : decode cL_law 683 = .ok (.iload 5, 2) := by decide +kernel
theorem dL_law_685 : decode cL_law 685 = .ok (.if_icmp .lt 5, 3) := by decide +kernel
theorem dL_law_688 : decode cL_law 688 = .ok (.iconst 0, 1) := by decide +kernel
theorem dL_law_689 : decode cL_law 689 = .ok (.ireturn, 1) := by decide +kernel
theorem dL_law_690 : decode cL_law 690 = .ok (.aload_n 1, 1) := by decide +kernel
theorem dL_law_691 : decode cL_law 691 = .ok (.invokevirtual 139, 3) := by decide +kernel
theorem dL_law_694 : decode cL_law 694 = .ok (.istore 19, 2) := by decide +kernel
theorem dL_law_696 : decode cL_law 696 = .ok (.aload_n 1, 1) := by decide +kernel
theorem dL_law_697 : decode cL_law 697 = .ok (.iconst 1, 1) := by decide +kernel
theorem dL_law_698 : decode cL_law 698 = .ok (.invokevirtual 57, 3) := by decide +kernel
theorem dL_law_701 : decode cL_law 701 = .ok (.istore 20, 2) := by decide +kernel
theorem dL_law_703 : decode cL_law 703 = .ok (.aload_n 2, 1) := by decide +kernel
theorem dL_law_704 : decode cL_law 704 = .ok (.invokevirtual 142, 3) := by decide +kernel
theorem dL_law_707 : decode cL_law 707 = .ok (.pop, 1) := by decide +kernel
theorem dL_law_708 : decode cL_law 708 = .ok (.iconst 0, 1) := by decide +kernel
theorem dL_law_709 : decode cL_law 709 = .ok (.istore 21, 2) := by decide +kernel
theorem dL_law_711 : decode cL_law 711 = .ok (.iconst 0, 1) := by decide +kernel
theorem dL_law_712 : decode cL_law 712 = .ok (.istore 22, 2) := by decide +kernel
theorem dL_law_714 : decode cL_law 714 = .ok (.iload 22, 2) := by decide +kernel
theorem dL_law_716 : decode cL_law 716 = .ok (.iload 6, 2) := by decide +kernel
theorem dL_law_718 : decode cL_law 718 = .ok (.if_icmp .ge 20, 3) := by decide +kernel
theorem dL_law_721 : decode cL_law 721 = .ok (.iload 21, 2) := by decide +kernel
theorem dL_law_723 : decode cL_law 723 = .ok (.aload_n 1, 1) := by decide +kernel
theorem dL_law_724 : decode cL_law 724 = .ok (.iload 22, 2) := by decide +kernel
theorem dL_law_726 : decode cL_law 726 = .ok (.invokevirtual 115, 3) := by decide +kernel
theorem dL_law_729 : decode cL_law 729 = .ok (.iadd, 1) := by decide +kernel
theorem dL_law_730 : decode cL_law 730 = .ok (.istore 21, 2) := by decide +kernel
theorem dL_law_732 : decode cL_law 732 = .ok (.iinc 22 1, 3) := by decide +kernel
theorem dL_law_735 : decode cL_law 735 = .ok (.goto (-21), 3) := by decide +kernel
theorem dL_law_738 : decode cL_law 738 = .ok (.iload 20, 2) := by decide +kernel
theorem dL_law_740 : decode cL_law 740 = .ok (.iload 15, 2) := by decide +kernel
theorem dL_law_742 : decode cL_law 742 = .ok (.if_icmp .ne 24, 3) := by decide +kernel
theorem dL_law_745 : decode cL_law 745 = .ok (.iload 21, 2) := by decide +kernel
theorem dL_law_747 : decode cL_law 747 = .ok (.iload 17, 2) := by decide +kernel
theorem dL_law_749 : decode cL_law 749 = .ok (.iload 16, 2) := by decide +kernel
theorem dL_law_751 : decode cL_law 751 = .ok (.iadd, 1) := by decide +kernel
theorem dL_law_752 : decode cL_law 752 = .ok (.if_icmp .ne 14, 3) := by decide +kernel
theorem dL_law_755 : decode cL_law 755 = .ok (.aload_n 1, 1) := by decide +kernel
theorem dL_law_756 : decode cL_law 756 = .ok (.invokevirtual 139, 3) := by decide +kernel
theorem dL_law_759 : decode cL_law 759 = .ok (.iload 19, 2) := by decide +kernel
theorem dL_law_761 : decode cL_law 761 = .ok (.iconst 1, 1) := by decide +kernel
theorem dL_law_762 : decode cL_law 762 = .ok (.iadd, 1) := by decide +kernel
theorem dL_law_763 : decode cL_law 763 = .ok (.if_icmp .eq 5, 3) := by decide +kernel
theorem dL_law_766 : decode cL_law 766 = .ok (.iconst 0, 1) := by decide +kernel
theorem dL_law_767 : decode cL_law 767 = .ok (.ireturn, 1) := by decide +kernel
theorem dL_law_768 : decode cL_law 768 = .ok (.iconst 0, 1) := by decide +kernel
theorem dL_law_769 : decode cL_law 769 = .ok (.istore 22, 2) := by decide +kernel
theorem dL_law_771 : decode cL_law 771 = .ok (.iload 22, 2) := by decide +kernel
theorem dL_law_773 : decode cL_law 773 = .ok (.iload 5, 2) := by decide +kernel
theorem dL_law_775 : decode cL_law 775 = .ok (.if_icmp .ge 156, 3) := by decide +kernel
theorem dL_law_778 : decode cL_law 778 = .ok (.aload 9, 2) := by decide +kernel
theorem dL_law_780 : decode cL_law 780 = .ok (.iload 22, 2) := by decide +kernel
theorem dL_law_782 : decode cL_law 782 = .ok (.iaload, 1) := by decide +kernel
theorem dL_law_783 : decode cL_law 783 = .ok (.iconst 1, 1) := by decide +kernel
theorem dL_law_784 : decode cL_law 784 = .ok (.if_icmp .ne 7, 3) := by decide +kernel
theorem dL_law_787 : decode cL_law 787 = .ok (.iconst 1, 1) := by decide +kernel
theorem dL_law_788 : decode cL_law 788 = .ok (.goto 4, 3) := by decide +kernel
theorem dL_law_791 : decode cL_law 791 = .ok (.iconst 0, 1) := by decide +kernel
theorem dL_law_792 : decode cL_law 792 = .ok (.istore 23, 2) := by decide +kernel
theorem dL_law_794 : decode cL_law 794 = .ok (.aload_n 1, 1) := by decide +kernel
theorem dL_law_795 : decode cL_law 795 = .ok (.iload 22, 2) := by decide +kernel
theorem dL_law_797 : decode cL_law 797 = .ok (.invokevirtual 83, 3) := by decide +kernel
theorem dL_law_800 : decode cL_law 800 = .ok (.iload 23, 2) := by decide +kernel
theorem dL_law_802 : decode cL_law 802 = .ok (.ifCond .eq 7, 3) := by decide +kernel
theorem dL_law_805 : decode cL_law 805 = .ok (.iconst 0, 1) := by decide +kernel
theorem dL_law_806 : decode cL_law 806 = .ok (.goto 10, 3) := by decide +kernel
theorem dL_law_809 : decode cL_law 809 = .ok (.aload 7, 2) := by decide +kernel
theorem dL_law_811 : decode cL_law 811 = .ok (.iload 22, 2) := by decide +kernel
theorem dL_law_813 : decode cL_law 813 = .ok (.iaload, 1) := by decide +kernel
theorem dL_law_814 : decode cL_law 814 = .ok (.iconst 1, 1) := by decide +kernel
theorem dL_law_815 : decode cL_law 815 = .ok (.iadd, 1) := by decide +kernel
theorem dL_law_816 : decode cL_law 816 = .ok (.if_icmp .ne 61, 3) := by decide +kernel
theorem dL_law_819 : decode cL_law 819 = .ok (.aload_n 1, 1) := by decide +kernel
theorem dL_law_820 : decode cL_law 820 = .ok (.iload 22, 2) := by decide +kernel
theorem dL_law_822 : decode cL_law 822 = .ok (.invokevirtual 92, 3) := by decide +kernel
theorem dL_law_825 : decode cL_law 825 = .ok (.aload 10, 2) := by decide +kernel
theorem dL_law_827 : decode cL_law 827 = .ok (.iload 22, 2) := by decide +kernel
theorem dL_law_829 : decode cL_law 829 = .ok (.iaload, 1) := by decide +kernel
theorem dL_law_830 : decode cL_law 830 = .ok (.iload 23, 2) := by decide +kernel
theorem dL_law_832 : decode cL_law 832 = .ok (.ifCond .eq 7, 3) := by decide +kernel
theorem dL_law_835 : decode cL_law 835 = .ok (.iconst 1, 1) := by decide +kernel
theorem dL_law_836 : decode cL_law 836 = .ok (.goto 4, 3) := by decide +kernel
theorem dL_law_839 : decode cL_law 839 = .ok (.iconst 0, 1) := by decide +kernel
theorem dL_law_840 : decode cL_law 840 = .ok (.iadd, 1) := by decide +kernel
theorem dL_law_841 : decode cL_law 841 = .ok (.if_icmp .ne 36, 3) := by decide +kernel
theorem dL_law_844 : decode cL_law 844 = .ok (.aload_n 1, 1) := by decide +kernel
theorem dL_law_845 : decode cL_law 845 = .ok (.iload 22, 2) := by decide +kernel
theorem dL_law_847 : decode cL_law 847 = .ok (.invokevirtual 89, 3) := by decide +kernel
theorem dL_law_850 : decode cL_law 850 = .ok (.iload 23, 2) := by decide +kernel
theorem dL_law_852 : decode cL_law 852 = .ok (.ifCond .eq 15, 3) := by decide +kernel
theorem dL_law_855 : decode cL_law 855 = .ok (.aload_n 2, 1) := by decide +kernel
theorem dL_law_856 : decode cL_law 856 = .ok (.getfield 9, 3) := by decide +kernel
theorem dL_law_859 : decode cL_law 859 = .ok (.iload 22, 2) := by decide +kernel
theorem dL_law_861 : decode cL_law 861 = .ok (.aaload, 1) := by decide +kernel
theorem dL_law_862 : decode cL_law 862 = .ok (.iconst 1, 1) := by decide +kernel
theorem dL_law_863 : decode cL_law 863 = .ok (.iaload, 1) := by decide +kernel
theorem dL_law_864 : decode cL_law 864 = .ok (.goto 10, 3) := by decide +kernel
theorem dL_law_867 : decode cL_law 867 = .ok (.aload 9, 2) := by decide +kernel
theorem dL_law_869 : decode cL_law 869 = .ok (.iload 22, 2) := by decide +kernel
theorem dL_law_871 : decode cL_law 871 = .ok (.iaload, 1) := by decide +kernel
theorem dL_law_872 : decode cL_law 872 = .ok (.iconst 1, 1) := by decide +kernel
theorem dL_law_873 : decode cL_law 873 = .ok (.isub, 1) := by decide +kernel
theorem dL_law_874 : decode cL_law 874 = .ok (.if_icmp .eq 5, 3) := by decide +kernel
theorem dL_law_877 : decode cL_law 877 = .ok (.iconst 0, 1) := by decide +kernel
theorem dL_law_878 : decode cL_law 878 = .ok (.ireturn, 1) := by decide +kernel
theorem dL_law_879 : decode cL_law 879 = .ok (.iconst 0, 1) := by decide +kernel
theorem dL_law_880 : decode cL_law 880 = .ok (.istore 24, 2) := by decide +kernel
theorem dL_law_882 : decode cL_law 882 = .ok (.iload 24, 2) := by decide +kernel
theorem dL_law_884 : decode cL_law 884 = .ok (.iload 6, 2) := by decide +kernel
theorem dL_law_886 : decode cL_law 886 = .ok (.if_icmp .ge 39, 3) := by decide +kernel
theorem dL_law_889 : decode cL_law 889 = .ok (.aload_n 1, 1) := by decide +kernel
theorem dL_law_890 : decode cL_law 890 = .ok (.iload 24, 2) := by decide +kernel
theorem dL_law_892 : decode cL_law 892 = .ok (.iload 22, 2) := by decide +kernel
theorem dL_law_894 : decode cL_law 894 = .ok (.invokevirtual 98, 3) := by decide +kernel
theorem dL_law_897 : decode cL_law 897 = .ok (.iload 23, 2) := by decide +kernel
theorem dL_law_899 : decode cL_law 899 = .ok (.ifCond .eq 7, 3) := by decide +kernel
theorem dL_law_902 : decode cL_law 902 = .ok (.iconst 0, 1) := by decide +kernel
theorem dL_law_903 : decode cL_law 903 = .ok (.goto 11, 3) := by decide +kernel
theorem dL_law_906 : decode cL_law 906 = .ok (.aload 12, 2) := by decide +kernel
theorem dL_law_908 : decode cL_law 908 = .ok (.iload 24, 2) := by decide +kernel
theorem dL_law_910 : decode cL_law 910 = .ok (.aaload, 1) := by decide +kernel
theorem dL_law_911 : decode cL_law 911 = .ok (.iload 22, 2) := by decide +kernel
theorem dL_law_913 : decode cL_law 913 = .ok (.iaload, 1) := by decide +kernel
theorem dL_law_914 : decode cL_law 914 = .ok (.if_icmp .eq 5, 3) := by decide +kernel
theorem dL_law_917 : decode cL_law 917 = .ok (.iconst 0, 1) := by decide +kernel
theorem dL_law_918 : decode cL_law 918 = .ok (.ireturn, 1) := by decide +kernel
theorem dL_law_919 : decode cL_law 919 = .ok (.iinc 24 1, 3) := by decide +kernel
theorem dL_law_922 : decode cL_law 922 = .ok (.goto (-40), 3) := by decide +kernel
theorem dL_law_925 : decode cL_law 925 = .ok (.iinc 22 1, 3) := by decide +kernel
theorem dL_law_928 : decode cL_law 928 = .ok (.goto (-157), 3) := by decide +kernel
theorem dL_law_931 : decode cL_law 931 = .ok (.iinc 3 1, 3) := by decide +kernel
theorem dL_law_934 : decode cL_law 934 = .ok (.goto (-912), 3) := by decide +kernel
theorem dL_law_937 : decode cL_law 937 = .ok (.aload_n 2, 1) := by decide +kernel
theorem dL_law_938 : decode cL_law 938 = .ok (.aload_n 1, 1) := by decide +kernel
theorem dL_law_939 : decode cL_law 939 = .ok (.invokevirtual 144, 3) := by decide +kernel
theorem dL_law_942 : decode cL_law 942 = .ok (.ireturn, 1) := by decide +kernel
