theorem dX12_copyMeant_27 : decode cX12_copyMeant 27 = .ok (.iload_n 3, 1) := by decide +kernel
theorem dX12_copyMeant_28 : decode cX12_copyMeant 28 = .ok (.aload_n 0, 1) := by decide +kernel
theorem dX12_copyMeant_29 : decode cX12_copyMeant 29 = .ok (.getfield 35, 3) := by decide +kernel
theorem dX12_copyMeant_32 : decode cX12_copyMeant 32 = .ok (.iload 4, 2) := by decide +kernel
theorem dX12_copyMeant_34 : decode cX12_copyMeant 34 = .ok (.iaload, 1) := by decide +kernel
theorem dX12_copyMeant_35 : decode cX12_copyMeant 35 = .ok (.iastore, 1) := by decide +kernel
theorem dX12_copyMeant_36 : decode cX12_copyMeant 36 = .ok (.aload_n 0, 1) := by decide +kernel
theorem dX12_copyMeant_37 : decode cX12_copyMeant 37 = .ok (.getfield 47, 3) := by decide +kernel
theorem dX12_copyMeant_40 : decode cX12_copyMeant 40 = .ok (.iload_n 3, 1) := by decide +kernel
theorem dX12_copyMeant_41 : decode cX12_copyMeant 41 = .ok (.aload_n 0, 1) := by decide +kernel
theorem dX12_copyMeant_42 : decode cX12_copyMeant 42 = .ok (.getfield 47, 3) := by decide +kernel
theorem dX12_copyMeant_45 : decode cX12_copyMeant 45 = .ok (.iload 4, 2) := by decide +kernel
theorem dX12_copyMeant_47 : decode cX12_copyMeant 47 = .ok (.iaload, 1) := by decide +kernel
theorem dX12_copyMeant_48 : decode cX12_copyMeant 48 = .ok (.iastore, 1) := by decide +kernel
theorem dX12_copyMeant_49 : decode cX12_copyMeant 49 = .ok (.return_, 1) := by decide +kernel
theorem dX12_readClass_0 : decode cX12_readClass 0 = .ok (.aload_n 0, 1) := by decide +kernel
theorem dX12_readClass_1 : decode cX12_readClass 1 = .ok (.invokevirtual 319, 3) := by decide +kernel
theorem dX12_readClass_4 : decode cX12_readClass 4 = .ok (.ifCond .ne 8, 3) := by decide +kernel
theorem dX12_readClass_7 : decode cX12_readClass 7 = .ok (.aload_n 0, 1) := by decide +kernel
theorem dX12_readClass_8 : decode cX12_readClass 8 = .ok (.invokevirtual 267, 3) := by decide +kernel
theorem dX12_readClass_11 : decode cX12_readClass 11 = .ok (.ireturn, 1) := by decide +kernel
theorem dX12_readClass_12 : decode cX12_readClass 12 = .ok (.aload_n 0, 1) := by decide +kernel
theorem dX12_readClass_13 : decode cX12_readClass 13 = .ok (.bipush 13, 2) := by decide +kernel
theorem dX12_readClass_15 : decode cX12_readClass 15 = .ok (.aload_n 0, 1) := by decide +kernel
theorem dX12_readClass_16 : decode cX12_readClass 16 = .ok (.getfield 291, 3) := by decide +kernel
theorem dX12_readClass_19 : decode cX12_readClass 19 = .ok (.aload_n 0, 1) := by decide +kernel
theorem dX12_readClass_20 : decode cX12_readClass 20 = .ok (.getfield 246, 3) := by decide +kernel
theorem dX12_readClass_23 : decode cX12_readClass 23 = .ok (.invokevirtual 303, 3) := by decide +kernel
theorem dX12_readClass_26 : decode cX12_readClass 26 = .ok (.ifCond .lt 9, 3) := by decide +kernel
theorem dX12_readClass_29 : decode cX12_readClass 29 = .ok (.aload_n 0, 1) := by decide +kernel
theorem dX12_readClass_30 : decode cX12_readClass 30 = .ok (.iconst 3, 1) := by decide +kernel
theorem dX12_readClass_31 : decode cX12_readClass 31 = .ok (.invokevirtual 261, 3) := by decide +kernel
theorem dX12_readClass_34 : decode cX12_readClass 34 = .ok (.ireturn, 1) := by decide +kernel
theorem dX12_readClass_35 : decode cX12_readClass 35 = .ok (.aload_n 0, 1) := by decide +kernel
theorem dX12_readClass_36 : decode cX12_readClass 36 = .ok (.getfield 291, 3) := by decide +kernel
theorem dX12_readClass_39 : decode cX12_readClass 39 = .ok (.bipush 12, 2) := by decide +kernel
theorem dX12_readClass_41 : decode cX12_readClass 41 = .ok (.if_icmp .ne 9, 3) := by decide +kernel
theorem dX12_readClass_44 : decode cX12_readClass 44 = .ok (.aload_n 0, 1) := by decide +kernel
theorem dX12_readClass_45 : decode cX12_readClass 45 = .ok (.iconst 4, 1) := by decide +kernel
theorem dX12_readClass_46 : decode cX12_readClass 46 = .ok (.invokevirtual 261, 3) := by decide +kernel
theorem dX12_readClass_49 : decode cX12_readClass 49 = .ok (.ireturn, 1) := by decide +kernel
theorem dX12_readClass_50 : decode cX12_readClass 50 = .ok (.bipush 13, 2) := by decide +kernel
theorem dX12_readClass_52 : decode cX12_readClass 52 = .ok (.aload_n 0, 1) := by decide +kernel
theorem dX12_readClass_53 : decode cX12_readClass 53 = .ok (.getfield 291, 3) := by decide +kernel
theorem dX12_readClass_56 : decode cX12_readClass 56 = .ok (.iadd, 1) := by decide +kernel
theorem dX12_readClass_57 : decode cX12_readClass 57 = .ok (.istore_n 1, 1) := by decide +kernel
theorem dX12_readClass_58 : decode cX12_readClass 58 = .ok (.aload_n 0, 1) := by decide +kernel
theorem dX12_readClass_59 : decode cX12_readClass 59 = .ok (.getfield 13, 3) := by decide +kernel
theorem dX12_readClass_62 : decode cX12_readClass 62 = .ok (.iload_n 1, 1) := by decide +kernel
theorem dX12_readClass_63 : decode cX12_readClass 63 = .ok (.aload_n 0, 1) := by decide +kernel
theorem dX12_readClass_64 : decode cX12_readClass 64 = .ok (.getfield 246, 3) := by decide +kernel
theorem dX12_readClass_67 : decode cX12_readClass 67 = .ok (.lastore, 1) := by decide +kernel
theorem dX12_readClass_68 : decode cX12_readClass 68 = .ok (.aload_n 0, 1) := by decide +kernel
theorem dX12_readClass_69 : decode cX12_readClass 69 = .ok (.getfield 17, 3) := by decide +kernel
theorem dX12_readClass_72 : decode cX12_readClass 72 = .ok (.iload_n 1, 1) := by decide +kernel
theorem dX12_readClass_73 : decode cX12_readClass 73 = .ok (.iconst (-1), 1) := by decide +kernel
theorem dX12_readClass_74 : decode cX12_readClass 74 = .ok (.iastore, 1) := by decide +kernel
theorem dX12_readClass_75 : decode cX12_readClass 75 = .ok (.aload_n 0, 1) := by decide +kernel
theorem dX12_readClass_76 : decode cX12_readClass 76 = .ok (.getfield 20, 3) := by decide +kernel
theorem dX12_readClass_79 : decode cX12_readClass 79 = .ok (.iload_n 1, 1) := by decide +kernel
theorem dX12_readClass_80 : decode cX12_readClass 80 = .ok (.iconst 0, 1) := by decide +kernel
theorem dX12_readClass_81 : decode cX12_readClass 81 = .ok (.iastore, 1) := by decide +kernel
theorem dX12_readClass_82 : decode cX12_readClass 82 = .ok (.aload_n 0, 1) := by decide +kernel
theorem dX12_readClass_83 : decode cX12_readClass 83 = .ok (.getfield 23, 3) := by decide +kernel
theorem dX12_readClass_86 : decode cX12_readClass 86 = .ok (.iload_n 1, 1) := by decide +kernel
theorem dX12_readClass_87 : decode cX12_readClass 87 = .ok (.iconst 0, 1) := by decide +kernel
theorem dX12_readClass_88 : decode cX12_readClass 88 = .ok (.iastore, 1) := by decide +kernel
theorem dX12_readClass_89 : decode cX12_readClass 89 = .ok (.aload_n 0, 1) := by decide +kernel
theorem dX12_readClass_90 : decode cX12_readClass 90 = .ok (.getfield 26, 3) := by decide +kernel
theorem dX12_readClass_93 : decode cX12_readClass 93 = .ok (.iload_n 1, 1) := by decide +kernel
theorem dX12_readClass_94 : decode cX12_readClass 94 = .ok (.iconst 0, 1) := by decide +kernel
theorem dX12_readClass_95 : decode cX12_readClass 95 = .ok (.iastore, 1) := by decide +kernel
theorem dX12_readClass_96 : decode cX12_readClass 96 = .ok (.aload_n 0, 1) := by decide +kernel
theorem dX12_readClass_97 : decode cX12_readClass 97 = .ok (.invokevirtual 271, 3) := by decide +kernel
theorem dX12_readClass_100 : decode cX12_readClass 100 = .ok (.aload_n 0, 1) := by decide +kernel
theorem dX12_readClass_101 : decode cX12_readClass 101 = .ok (.invokevirtual 284, 3) := by decide +kernel
theorem dX12_readClass_104 : decode cX12_readClass 104 = .ok (.iconst 1, 1) := by decide +kernel
theorem dX12_readClass_105 : decode cX12_readClass 105 = .ok (.if_icmp .ne 116, 3) := by decide +kernel
theorem dX12_readClass_108 : decode cX12_readClass 108 = .ok (.aload_n 0, 1) := by decide +kernel
theorem dX12_readClass_109 : decode cX12_readClass 109 = .ok (.invokevirtual 271, 3) := by decide +kernel
theorem dX12_readClass_112 : decode cX12_readClass 112 = .ok (.aload_n 0, 1) := by decide +kernel
theorem dX12_readClass_113 : decode cX12_readClass 113 = .ok (.invokevirtual 319, 3) := by decide +kernel
theorem dX12_readClass_116 : decode cX12_readClass 116 = .ok (.ifCond .ne 8, 3) := by decide +kernel
theorem dX12_readClass_119 : decode cX12_readClass 119 = .ok (.aload_n 0, 1) := by decide +kernel
theorem dX12_readClass_120 : decode cX12_readClass 120 = .ok (.invokevirtual 267, 3) := by decide +kernel
theorem dX12_readClass_123 : decode cX12_readClass 123 = .ok (.ireturn, 1) := by decide +kernel
theorem dX12_readClass_124 : decode cX12_readClass 124 = .ok (.aload_n 0, 1) := by decide +kernel
theorem dX12_readClass_125 : decode cX12_readClass 125 = .ok (.bipush 13, 2) := by decide +kernel
theorem dX12_readClass_127 : decode cX12_readClass 127 = .ok (.aload_n 0, 1) := by decide +kernel
theorem dX12_readClass_128 : decode cX12_readClass 128 = .ok (.getfield 291, 3) := by decide +kernel
theorem dX12_readClass_131 : decode cX12_readClass 131 = .ok (.aload_n 0, 1) := by decide +kernel
theorem dX12_readClass_132 : decode cX12_readClass 132 = .ok (.getfield 246, 3) := by decide +kernel
theorem dX12_readClass_135 : decode cX12_readClass 135 = .ok (.invokevirtual 303, 3) := by decide +kernel
theorem dX12_readClass_138 : decode cX12_readClass 138 = .ok (.istore_n 2, 1) := by decide +kernel
theorem dX12_readClass_139 : decode cX12_readClass 139 = .ok (.iload_n 2, 1) := by decide +kernel
theorem dX12_readClass_140 : decode cX12_readClass 140 = .ok (.ifCond .ge 9, 3) := by decide +kernel
theorem dX12_readClass_143 : decode cX12_readClass 143 = .ok (.aload_n 0, 1) := by decide +kernel
theorem dX12_readClass_144 : decode cX12_readClass 144 = .ok (.iconst 3, 1) := by decide +kernel
theorem dX12_readClass_145 : decode cX12_readClass 145 = .ok (.invokevirtual 261, 3) := by decide +kernel
theorem dX12_readClass_148 : decode cX12_readClass 148 = .ok (.ireturn, 1) := by decide +kernel
theorem dX12_readClass_149 : decode cX12_readClass 149 = .ok (.aload_n 0, 1) := by decide +kernel
theorem dX12_readClass_150 : decode cX12_readClass 150 = .ok (.getfield 17, 3) := by decide +kernel
theorem dX12_readClass_153 : decode cX12_readClass 153 = .ok (.iload_n 1, 1) := by decide +kernel
theorem dX12_readClass_154 : decode cX12_readClass 154 = .ok (.iload_n 2, 1) := by decide +kernel
theorem dX12_readClass_155 : decode cX12_readClass 155 = .ok (.iastore, 1) := by decide +kernel
theorem dX12_readClass_156 : decode cX12_readClass 156 = .ok (.aload_n 0, 1) := by decide +kernel
theorem dX12_readClass_157 : decode cX12_readClass 157 = .ok (.getfield 20, 3) := by decide +kernel
theorem dX12_readClass_160 : decode cX12_readClass 160 = .ok (.iload_n 1, 1) := by decide +kernel
theorem dX12_readClass_161 : decode cX12_readClass 161 = .ok (.aload_n 0, 1) := by decide +kernel
theorem dX12_readClass_162 : decode cX12_readClass 162 = .ok (.getfield 20, 3) := by decide +kernel
theorem dX12_readClass_165 : decode cX12_readClass 165 = .ok (.bipush 13, 2) := by decide +kernel
theorem dX12_readClass_167 : decode cX12_readClass 167 = .ok (.iload_n 2, 1) := by decide +kernel
theorem dX12_readClass_168 : decode cX12_readClass 168 = .ok (.iadd, 1) := by decide +kernel
theorem dX12_readClass_169 : decode cX12_readClass 169 = .ok (.iaload, 1) := by decide +kernel
theorem dX12_readClass_170 : decode cX12_readClass 170 = .ok (.iastore, 1) := by decide +kernel
theorem dX12_readClass_171 : decode cX12_readClass 171 = .ok (.aload_n 0, 1) := by decide +kernel
theorem dX12_readClass_172 : decode cX12_readClass 172 = .ok (.getfield 23, 3) := by decide +kernel
theorem dX12_readClass_175 : decode cX12_readClass 175 = .ok (.iload_n 1, 1) := by decide +kernel
theorem dX12_readClass_176 : decode cX12_readClass 176 = .ok (.aload_n 0, 1) := by decide +kernel
theorem dX12_readClass_177 : decode cX12_readClass 177 = .ok (.getfield 23, 3) := by decide +kernel
theorem dX12_readClass_180 : decode cX12_readClass 180 = .ok (.bipush 13, 2) := by decide +kernel
theorem dX12_readClass_182 : decode cX12_readClass 182 = .ok (.iload_n 2, 1) := by decide +kernel
theorem dX12_readClass_183 : decode cX12_readClass 183 = .ok (.iadd, 1) := by decide +kernel
theorem dX12_readClass_184 : decode cX12_readClass 184 = .ok (.iaload, 1) := by decide +kernel
theorem dX12_readClass_185 : decode cX12_readClass 185 = .ok (.iastore, 1) := by decide +kernel
theorem dX12_readClass_186 : decode cX12_readClass 186 = .ok (.iconst 0, 1) := by decide +kernel
theorem dX12_readClass_187 : decode cX12_readClass 187 = .ok (.istore_n 3, 1) := by decide +kernel
theorem dX12_readClass_188 : decode cX12_readClass 188 = .ok (.iload_n 3, 1) := by decide +kernel
theorem dX12_readClass_189 : decode cX12_readClass 189 = .ok (.aload_n 0, 1) := by decide +kernel
theorem dX12_readClass_190 : decode cX12_readClass 190 = .ok (.getfield 23, 3) := by decide +kernel
theorem dX12_readClass_193 : decode cX12_readClass 193 = .ok (.iload_n 1, 1) := by decide +kernel
theorem dX12_readClass_194 : decode cX12_readClass 194 = .ok (.iaload, 1) := by decide +kernel
theorem dX12_readClass_195 : decode cX12_readClass 195 = .ok (.if_icmp .ge 19, 3) := by decide +kernel
theorem dX12_readClass_198 : decode cX12_readClass 198 = .ok (.aload_n 0, 1) := by decide +kernel
theorem dX12_readClass_199 : decode cX12_readClass 199 = .ok (.bipush 13, 2) := by decide +kernel
theorem dX12_readClass_201 : decode cX12_readClass 201 = .ok (.iload_n 2, 1) := by decide +kernel
theorem dX12_readClass_202 : decode cX12_readClass 202 = .ok (.iadd, 1) := by decide +kernel
theorem dX12_readClass_203 : decode cX12_readClass 203 = .ok (.iload_n 1, 1) := by decide +kernel
theorem dX12_readClass_204 : decode cX12_readClass 204 = .ok (.iload_n 3, 1) := by decide +kernel
theorem dX12_readClass_205 : decode cX12_readClass 205 = .ok (.invokevirtual 322, 3) := by decide +kernel
theorem dX12_readClass_208 : decode cX12_readClass 208 = .ok (.iinc 3 1, 3) := by decide +kernel
theorem dX12_readClass_211 : decode cX12_readClass 211 = .ok (.goto (-23), 3) := by decide +kernel
theorem dX12_readClass_214 : decode cX12_readClass 214 = .ok (.aload_n 0, 1) := by decide +kernel
theorem dX12_readClass_215 : decode cX12_readClass 215 = .ok (.invokevirtual 271, 3) := by decide +kernel
theorem dX12_readClass_218 : decode cX12_readClass 218 = .ok (.goto 53, 3) := by decide +kernel
theorem dX12_readClass_221 : decode cX12_readClass 221 = .ok (.aload_n 0, 1) := by decide +kernel
theorem dX12_readClass_222 : decode cX12_readClass 222 = .ok (.invokevirtual 284, 3) := by decide +kernel
theorem dX12_readClass_225 : decode cX12_readClass 225 = .ok (.iconst 2, 1) := by decide +kernel
theorem dX12_readClass_226 : decode cX12_readClass 226 = .ok (.if_icmp .ne 45, 3) := by decide +kernel
theorem dX12_readClass_229 : decode cX12_readClass 229 = .ok (.aload_n 0, 1) := by decide +kernel
theorem dX12_readClass_230 : decode cX12_readClass 230 = .ok (.invokevirtual 271, 3) := by decide +kernel
theorem dX12_readClass_233 : decode cX12_readClass 233 = .ok (.aload_n 0, 1) := by decide +kernel
theorem dX12_readClass_234 : decode cX12_readClass 234 = .ok (.invokevirtual 284, 3) := by decide +kernel
theorem dX12_readClass_237 : decode cX12_readClass 237 = .ok (.istore_n 2, 1) := by decide +kernel
theorem dX12_readClass_238 : decode cX12_readClass 238 = .ok (.iload_n 2, 1) := by decide +kernel
theorem dX12_readClass_239 : decode cX12_readClass 239 = .ok (.iconst 3, 1) := by decide +kernel
theorem dX12_readClass_240 : decode cX12_readClass 240 = .ok (.if_icmp .eq 18, 3) := by decide +kernel
theorem dX12_readClass_243 : decode cX12_readClass 243 = .ok (.iload_n 2, 1) := by decide +kernel
theorem dX12_readClass_244 : decode cX12_readClass 244 = .ok (.iconst 4, 1) := by decide +kernel
theorem dX12_readClass_245 : decode cX12_readClass 245 = .ok (.if_icmp .eq 13, 3) := by decide +kernel
theorem dX12_readClass_248 : decode cX12_readClass 248 = .ok (.iload_n 2, 1) := by decide +kernel
theorem dX12_readClass_249 : decode cX12_readClass 249 = .ok (.iconst 5, 1) := by decide +kernel
theorem dX12_readClass_250 : decode cX12_readClass 250 = .ok (.if_icmp .eq 8, 3) := by decide +kernel
theorem dX12_readClass_253 : decode cX12_readClass 253 = .ok (.aload_n 0, 1) := by decide +kernel
theorem dX12_readClass_254 : decode cX12_readClass 254 = .ok (.invokevirtual 267, 3) := by decide +kernel
theorem dX12_readClass_257 : decode cX12_readClass 257 = .ok (.ireturn, 1) := by decide +kernel
theorem dX12_readClass_258 : decode cX12_readClass 258 = .ok (.aload_n 0, 1) := by decide +kernel
theorem dX12_readClass_259 : decode cX12_readClass 259 = .ok (.getfield 20, 3) := by decide +kernel
theorem dX12_readClass_262 : decode cX12_readClass 262 = .ok (.iload_n 1, 1) := by decide +kernel
theorem dX12_readClass_263 : decode cX12_readClass 263 = .ok (.iload_n 2, 1) := by decide +kernel
theorem dX12_readClass_264 : decode cX12_readClass 264 = .ok (.iconst 3, 1) := by decide +kernel
theorem dX12_readClass_265 : decode cX12_readClass 265 = .ok (.isub, 1) := by decide +kernel
theorem dX12_readClass_266 : decode cX12_readClass 266 = .ok (.iastore, 1) := by decide +kernel
theorem dX12_readClass_267 : decode cX12_readClass 267 = .ok (.aload_n 0, 1) := by decide +kernel
theorem dX12_readClass_268 : decode cX12_readClass 268 = .ok (.invokevirtual 271, 3) := by decide +kernel
theorem dX12_readClass_271 : decode cX12_readClass 271 = .ok (.aload_n 0, 1) := by decide +kernel
theorem dX12_readClass_272 : decode cX12_readClass 272 = .ok (.bipush 123, 2) := by decide +kernel
theorem dX12_readClass_274 : decode cX12_readClass 274 = .ok (.invokevirtual 326, 3) := by decide +kernel
theorem dX12_readClass_277 : decode cX12_readClass 277 = .ok (.ifCond .ne 5, 3) := by decide +kernel
theorem dX12_readClass_280 : decode cX12_readClass 280 = .ok (.iconst 0, 1) := by decide +kernel
theorem dX12_readClass_281 : decode cX12_readClass 281 = .ok (.ireturn, 1) := by decide +kernel
theorem dX12_readClass_282 : decode cX12_readClass 282 = .ok (.aload_n 0, 1) := by decide +kernel
theorem dX12_readClass_283 : decode cX12_readClass 283 = .ok (.dup, 1) := by decide +kernel
theorem dX12_readClass_284 : decode cX12_readClass 284 = .ok (.getfield 291, 3) := by decide +kernel
theorem dX12_readClass_287 : decode cX12_readClass 287 = .ok (.iconst 1, 1) := by decide +kernel
theorem dX12_readClass_288 : decode cX12_readClass 288 = .ok (.iadd, 1) := by decide +kernel
theorem dX12_readClass_289 : decode cX12_readClass 289 = .ok (.putfield 291, 3) := by decide +kernel
theorem dX12_readClass_292 : decode cX12_readClass 292 = .ok (.aload_n 0, 1) := by decide +kernel
theorem dX12_readClass_293 : decode cX12_readClass 293 = .ok (.bipush 125, 2) := by decide +kernel
theorem dX12_readClass_295 : decode cX12_readClass 295 = .ok (.invokevirtual 264, 3) := by decide +kernel
theorem dX12_readClass_298 : decode cX12_readClass 298 = .ok (.ifCond .ne 33, 3) := by decide +kernel
theorem dX12_readClass_301 : decode cX12_readClass 301 = .ok (.aload_n 0, 1) := by decide +kernel
theorem dX12_readClass_302 : decode cX12_readClass 302 = .ok (.invokevirtual 284, 3) := by decide +kernel
theorem dX12_readClass_305 : decode cX12_readClass 305 = .ok (.bipush 15, 2) := by decide +kernel
theorem dX12_readClass_307 : decode cX12_readClass 307 = .ok (.if_icmp .ne 14, 3) := by decide +kernel
theorem dX12_readClass_310 : decode cX12_readClass 310 = .ok (.aload_n 0, 1) := by decide +kernel
theorem dX12_readClass_311 : decode cX12_readClass 311 = .ok (.iload_n 1, 1) := by decide +kernel
theorem dX12_readClass_312 : decode cX12_readClass 312 = .ok (.invokevirtual 329, 3) := by decide +kernel
theorem dX12_readClass_315 : decode cX12_readClass 315 = .ok (.ifCond .eq 14, 3) := by decide +kernel
theorem dX12_readClass_318 : decode cX12_readClass 318 = .ok (.goto (-26), 3) := by decide +kernel
theorem dX12_readClass_321 : decode cX12_readClass 321 = .ok (.aload_n 0, 1) := by decide +kernel
theorem dX12_readClass_322 : decode cX12_readClass 322 = .ok (.iload_n 1, 1) := by decide +kernel
theorem dX12_readClass_323 : decode cX12_readClass 323 = .ok (.invokevirtual 332, 3) := by decide +kernel
theorem dX12_readClass_326 : decode cX12_readClass 326 = .ok (.ifCond .ne (-34), 3) := by decide +kernel
theorem dX12_readClass_329 : decode cX12_readClass 329 = .ok (.iconst 0, 1) := by decide +kernel
theorem dX12_readClass_330 : decode cX12_readClass 330 = .ok (.ireturn, 1) := by decide +kernel
theorem dX12_readClass_331 : decode cX12_readClass 331 = .ok (.aload_n 0, 1) := by decide +kernel
theorem dX12_readClass_332 : decode cX12_readClass 332 = .ok (.invokevirtual 271, 3) := by decide +kernel
theorem dX12_readClass_335 : decode cX12_readClass 335 = .ok (.iconst 1, 1) := by decide +kernel
theorem dX12_readClass_336 : decode cX12_readClass 336 = .ok (.ireturn, 1) := by decide +kernel
theorem dX12_copyMember_0 : decode cX12_copyMember 0 = .ok (.bipush 16, 2) := by decide +kernel
theorem dX12_copyMember_2 : decode cX12_copyMember 2 = .ok (.iload_n 1, 1) := by decide +kernel
theorem dX12_copyMember_3 : decode cX12_copyMember 3 = .ok (.imul, 1) := by decide +kernel
theorem dX12_copyMember_4 : decode cX12_copyMember 4 = .ok (.iload_n 3, 1) := by decide +kernel
theorem dX12_copyMember_5 : decode cX12_copyMember 5 = .ok (.iadd, 1) := by decide +kernel
theorem dX12_copyMember_6 : decode cX12_copyMember 6 = .ok (.istore 4, 2) := by decide +kernel
theorem dX12_copyMember_8 : decode cX12_copyMember 8 = .ok (.bipush 16, 2) := by decide +kernel
theorem dX12_copyMember_10 : decode cX12_copyMember 10 = .ok (.iload_n 2, 1) := by decide +kernel
theorem dX12_copyMember_11 : decode cX12_copyMember 11 = .ok (.imul, 1) := by decide +kernel
theorem dX12_copyMember_12 : decode cX12_copyMember 12 = .ok (.iload_n 3, 1) := by decide +kernel
theorem dX12_copyMember_13 : decode cX12_copyMember 13 = .ok (.iadd, 1) := by decide +kernel
theorem dX12_copyMember_14 : decode cX12_copyMember 14 = .ok (.istore 5, 2) := by decide +kernel
theorem dX12_copyMember_16 : decode cX12_copyMember 16 = .ok (.aload_n 0, 1) := by decide +kernel
theorem dX12_copyMember_17 : decode cX12_copyMember 17 = .ok (.getfield 29, 3) := by decide +kernel
theorem dX12_copyMember_20 : decode cX12_copyMember 20 = .ok (.iload 5, 2) := by decide +kernel
theorem dX12_copyMember_22 : decode cX12_copyMember 22 = .ok (.aload_n 0, 1) := by decide +kernel
theorem dX12_copyMember_23 : decode cX12_copyMember 23 = .ok (.getfield 29, 3) := by decide +kernel
theorem dX12_copyMember_26 : decode cX12_copyMember 26 = .ok (.iload 4, 2) := by decide +kernel
theorem dX12_copyMember_28 : decode cX12_copyMember 28 = .ok (.laload, 1) := by decide +kernel
theorem dX12_copyMember_29 : decode cX12_copyMember 29 = .ok (.lastore, 1) := by decide +kernel
theorem dX12_copyMember_30 : decode cX12_copyMember 30 = .ok (.aload_n 0, 1) := by decide +kernel
theorem dX12_copyMember_31 : decode cX12_copyMember 31 = .ok (.getfield 32, 3) := by decide +kernel
theorem dX12_copyMember_34 : decode cX12_copyMember 34 = .ok (.iload 5, 2) := by decide +kernel
theorem dX12_copyMember_36 : decode cX12_copyMember 36 = .ok (.aload_n 0, 1) := by decide +kernel
theorem dX12_copyMember_37 : decode cX12_copyMember 37 = .ok (.getfield 32, 3) := by decide +kernel
theorem dX12_copyMember_40 : decode cX12_copyMember 40 = .ok (.iload 4, 2) := by decide +kernel
theorem dX12_copyMember_42 : decode cX12_copyMember 42 = .ok (.iaload, 1) := by decide +kernel
theorem dX12_copyMember_43 : decode cX12_copyMember 43 = .ok (.iastore, 1) := by decide +kernel
theorem dX12_copyMember_44 : decode cX12_copyMember 44 = .ok (.aload_n 0, 1) := by decide +kernel
theorem dX12_copyMember_45 : decode cX12_copyMember 45 = .ok (.getfield 35, 3) := by decide +kernel
theorem dX12_copyMember_48 : decode cX12_copyMember 48 = .ok (.iload 5, 2) := by decide +kernel
theorem dX12_copyMember_50 : decode cX12_copyMember 50 = .ok (.aload_n 0, 1) := by decide +kernel
theorem dX12_copyMember_51 : decode cX12_copyMember 51 = .ok (.getfield 35, 3) := by decide +kernel
theorem dX12_copyMember_54 : decode cX12_copyMember 54 = .ok (.iload 4, 2) := by decide +kernel
theorem dX12_copyMember_56 : decode cX12_copyMember 56 = .ok (.iaload, 1) := by decide +kernel
theorem dX12_copyMember_57 : decode cX12_copyMember 57 = .ok (.iastore, 1) := by decide +kernel
theorem dX12_copyMember_58 : decode cX12_copyMember 58 = .ok (.aload_n 0, 1) := by decide +kernel
theorem dX12_copyMember_59 : decode cX12_copyMember 59 = .ok (.getfield 38, 3) := by decide +kernel
theorem dX12_copyMember_62 : decode cX12_copyMember 62 = .ok (.iload 5, 2) := by decide +kernel
theorem dX12_copyMember_64 : decode cX12_copyMember 64 = .ok (.aload_n 0, 1) := by decide +kernel
theorem dX12_copyMember_65 : decode cX12_copyMember 65 = .ok (.getfield 38, 3) := by decide +kernel
theorem dX12_copyMember_68 : decode cX12_copyMember 68 = .ok (.iload 4, 2) := by decide +kernel
theorem dX12_copyMember_70 : decode cX12_copyMember 70 = .ok (.iaload, 1) := by decide +kernel
theorem dX12_copyMember_71 : decode cX12_copyMember 71 = .ok (.iastore, 1) := by decide +kernel
theorem dX12_copyMember_72 : decode cX12_copyMember 72 = .ok (.aload_n 0, 1) := by decide +kernel
theorem dX12_copyMember_73 : decode cX12_copyMember 73 = .ok (.getfield 41, 3) := by decide +kernel
theorem dX12_copyMember_76 : decode cX12_copyMember 76 = .ok (.iload 5, 2) := by decide +kernel
theorem dX12_copyMember_78 : decode cX12_copyMember 78 = .ok (.aload_n 0, 1) := by decide +kernel
theorem dX12_copyMember_79 : decode cX12_copyMember 79 = .ok (.getfield 41, 3) := by decide +kernel
theorem dX12_copyMember_82 : decode cX12_copyMember 82 = .ok (.iload 4, 2) := by decide +kernel
theorem dX12_copyMember_84 : decode cX12_copyMember 84 = .ok (.iaload, 1) := by decide +kernel
theorem dX12_copyMember_85 : decode cX12_copyMember 85 = .ok (.iastore, 1) := by decide +kernel
theorem dX12_copyMember_86 : decode cX12_copyMember 86 = .ok (.aload_n 0, 1) := by decide +kernel
theorem dX12_copyMember_87 : decode cX12_copyMember 87 = .ok (.getfield 44, 3) := by decide +kernel
theorem dX12_copyMember_90 : decode cX12_copyMember 90 = .ok (.iload 5, 2) := by decide +kernel
theorem dX12_copyMember_92 : decode cX12_copyMember 92 = .ok (.aload_n 0, 1) := by decide +kernel
theorem dX12_copyMember_93 : decode cX12_copyMember 93 = .ok (.getfield 44, 3) := by decide +kernel
theorem dX12_copyMember_96 : decode cX12_copyMember 96 = .ok (.iload 4, 2) := by decide +kernel
theorem dX12_copyMember_98 : decode cX12_copyMember 98 = .ok (.iaload, 1) := by decide +kernel
theorem dX12_copyMember_99 : decode cX12_copyMember 99 = .ok (.iastore, 1) := by decide +kernel
theorem dX12_copyMember_100 : decode cX12_copyMember 100 = .ok (.aload_n 0, 1) := by decide +kernel
theorem dX12_copyMember_101 : decode cX12_copyMember 101 = .ok (.getfield 47, 3) := by decide +kernel
theorem dX12_copyMember_104 : decode cX12_copyMember 104 = .ok (.iload 5, 2) := by decide +kernel
theorem dX12_copyMember_106 : decode cX12_copyMember 106 = .ok (.aload_n 0, 1) := by decide +kernel
theorem dX12_copyMember_107 : decode cX12_copyMember 107 = .ok (.getfield 47, 3) := by decide +kernel
theorem dX12_copyMember_110 : decode cX12_copyMember 110 = .ok (.iload 4, 2) := by decide +kernel
theorem dX12_copyMember_112 : decode cX12_copyMember 112 = .ok (.iaload, 1) := by decide +kernel
theorem dX12_copyMember_113 : decode cX12_copyMember 113 = .ok (.iastore, 1) := by decide +kernel
theorem dX12_copyMember_114 : decode cX12_copyMember 114 = .ok (.aload_n 0, 1) := by decide +kernel
theorem dX12_copyMember_115 : decode cX12_copyMember 115 = .ok (.getfield 50, 3) := by decide +kernel
theorem dX12_copyMember_118 : decode cX12_copyMember 118 = .ok (.iload 5, 2) := by decide +kernel
theorem dX12_copyMember_120 : decode cX12_copyMember 120 = .ok (.aload_n 0, 1) := by decide +kernel
theorem dX12_copyMember_121 : decode cX12_copyMember 121 = .ok (.getfield 50, 3) := by decide +kernel
theorem dX12_copyMember_124 : decode cX12_copyMember 124 = .ok (.iload 4, 2) := by decide +kernel
theorem dX12_copyMember_126 : decode cX12_copyMember 126 = .ok (.iaload, 1) := by decide +kernel
theorem dX12_copyMember_127 : decode cX12_copyMember 127 = .ok (.iastore, 1) := by decide +kernel
theorem dX12_copyMember_128 : decode cX12_copyMember 128 = .ok (.return_, 1) := by decide +kernel
theorem dX12_readMember_0 : decode cX12_readMember 0 = .ok (.aload_n 0, 1) := by decide +kernel
theorem dX12_readMember_1 : decode cX12_readMember 1 = .ok (.invokevirtual 319, 3) := by decide +kernel
theorem dX12_readMember_4 : decode cX12_readMember 4 = .ok (.ifCond .ne 8, 3) := by decide +kernel
theorem dX12_readMember_7 : decode cX12_readMember 7 = .ok (.aload_n 0, 1) := by decide +kernel
theorem dX12_readMember_8 : decode cX12_readMember 8 = .ok (.invokevirtual 267, 3) := by decide +kernel
theorem dX12_readMember_11 : decode cX12_readMember 11 = .ok (.ireturn, 1) := by decide +kernel
theorem dX12_readMember_12 : decode cX12_readMember 12 = .ok (.aload_n 0, 1) := by decide +kernel
theorem dX12_readMember_13 : decode cX12_readMember 13 = .ok (.iload_n 1, 1) := by decide +kernel
theorem dX12_readMember_14 : decode cX12_readMember 14 = .ok (.aload_n 0, 1) := by decide +kernel
theorem dX12_readMember_15 : decode cX12_readMember 15 = .ok (.getfield 246, 3) := by decide +kernel
theorem dX12_readMember_18 : decode cX12_readMember 18 = .ok (.invokevirtual 311, 3) := by decide +kernel
theorem dX12_readMember_21 : decode cX12_readMember 21 = .ok (.ifCond .lt 9, 3) := by decide +kernel
theorem dX12_readMember_24 : decode cX12_readMember 24 = .ok (.aload_n 0, 1) := by decide +kernel
theorem dX12_readMember_25 : decode cX12_readMember 25 = .ok (.iconst 3, 1) := by decide +kernel
theorem dX12_readMember_26 : decode cX12_readMember 26 = .ok (.invokevirtual 261, 3) := by decide +kernel
theorem dX12_readMember_29 : decode cX12_readMember 29 = .ok (.ireturn, 1) := by decide +kernel
theorem dX12_readMember_30 : decode cX12_readMember 30 = .ok (.aload_n 0, 1) := by decide +kernel
theorem dX12_readMember_31 : decode cX12_readMember 31 = .ok (.getfield 23, 3) := by decide +kernel
theorem dX12_readMember_34 : decode cX12_readMember 34 = .ok (.iload_n 1, 1) := by decide +kernel
theorem dX12_readMember_35 : decode cX12_readMember 35 = .ok (.iaload, 1) := by decide +kernel
theorem dX12_readMember_36 : decode cX12_readMember 36 = .ok (.bipush 16, 2) := by decide +kernel
theorem dX12_readMember_38 : decode cX12_readMember 38 = .ok (.if_icmp .ne 9, 3) := by decide +kernel
theorem dX12_readMember_41 : decode cX12_readMember 41 = .ok (.aload_n 0, 1) := by decide +kernel
theorem dX12_readMember_42 : decode cX12_readMember 42 = .ok (.iconst 4, 1) := by decide +kernel
theorem dX12_readMember_43 : decode cX12_readMember 43 = .ok (.invokevirtual 261, 3) := by decide +kernel
theorem dX12_readMember_46 : decode cX12_readMember 46 = .ok (.ireturn, 1) := by decide +kernel
theorem dX12_readMember_47 : decode cX12_readMember 47 = .ok (.bipush 16, 2) := by decide +kernel
theorem dX12_readMember_49 : decode cX12_readMember 49 = .ok (.iload_n 1, 1) := by decide +kernel
theorem dX12_readMember_50 : decode cX12_readMember 50 = .ok (.imul, 1) := by decide +kernel
theorem dX12_readMember_51 : decode cX12_readMember 51 = .ok (.aload_n 0, 1) := by decide +kernel
theorem dX12_readMember_52 : decode cX12_readMember 52 = .ok (.getfield 23, 3) := by decide +kernel
theorem dX12_readMember_55 : decode cX12_readMember 55 = .ok (.iload_n 1, 1) := by decide +kernel
theorem dX12_readMember_56 : decode cX12_readMember 56 = .ok (.iaload, 1) := by decide +kernel
theorem dX12_readMember_57 : decode cX12_readMember 57 = .ok (.iadd, 1) := by decide +kernel
theorem dX12_readMember_58 : decode cX12_readMember 58 = .ok (.istore_n 2, 1) := by decide +kernel
theorem dX12_readMember_59 : decode cX12_readMember 59 = .ok (.aload_n 0, 1) := by decide +kernel
theorem dX12_readMember_60 : decode cX12_readMember 60 = .ok (.getfield 29, 3) := by decide +kernel
theorem dX12_readMember_63 : decode cX12_readMember 63 = .ok (.iload_n 2, 1) := by decide +kernel
theorem dX12_readMember_64 : decode cX12_readMember 64 = .ok (.aload_n 0, 1) := by decide +kernel
theorem dX12_readMember_65 : decode cX12_readMember 65 = .ok (.getfield 246, 3) := by decide +kernel
theorem dX12_readMember_68 : decode cX12_readMember 68 = .ok (.lastore, 1) := by decide +kernel
theorem dX12_readMember_69 : decode cX12_readMember 69 = .ok (.aload_n 0, 1) := by decide +kernel
theorem dX12_readMember_70 : decode cX12_readMember 70 = .ok (.getfield 44, 3) := by decide +kernel
theorem dX12_readMember_73 : decode cX12_readMember 73 = .ok (.iload_n 2, 1) := by decide +kernel
theorem dX12_readMember_74 : decode cX12_readMember 74 = .ok (.iconst 0, 1) := by decide +kernel
theorem dX12_readMember_75 : decode cX12_readMember 75 = .ok (.iastore, 1) := by decide +kernel
theorem dX12_readMember_76 : decode cX12_readMember 76 = .ok (.aload_n 0, 1) := by decide +kernel
theorem dX12_readMember_77 : decode cX12_readMember 77 = .ok (.getfield 41, 3) := by decide +kernel
theorem dX12_readMember_80 : decode cX12_readMember 80 = .ok (.iload_n 2, 1) := by decide +kernel
theorem dX12_readMember_81 : decode cX12_readMember 81 = .ok (.iconst 0, 1) := by decide +kernel
theorem dX12_readMember_82 : decode cX12_readMember 82 = .ok (.iastore, 1) := by decide +kernel
theorem dX12_readMember_83 : decode cX12_readMember 83 = .ok (.aload_n 0, 1) := by decide +kernel
theorem dX12_readMember_84 : decode cX12_readMember 84 = .ok (.getfield 38, 3) := by decide +kernel
theorem dX12_readMember_87 : decode cX12_readMember 87 = .ok (.iload_n 2, 1) := by decide +kernel
theorem dX12_readMember_88 : decode cX12_readMember 88 = .ok (.iconst 0, 1) := by decide +kernel
theorem dX12_readMember_89 : decode cX12_readMember 89 = .ok (.iastore, 1) := by decide +kernel
theorem dX12_readMember_90 : decode cX12_readMember 90 = .ok (.aload_n 0, 1) := by decide +kernel
theorem dX12_readMember_91 : decode cX12_readMember 91 = .ok (.getfield 35, 3) := by decide +kernel
theorem dX12_readMember_94 : decode cX12_readMember 94 = .ok (.iload_n 2, 1) := by decide +kernel
theorem dX12_readMember_95 : decode cX12_readMember 95 = .ok (.iconst 0, 1) := by decide +kernel
theorem dX12_readMember_96 : decode cX12_readMember 96 = .ok (.iastore, 1) := by decide +kernel
theorem dX12_readMember_97 : decode cX12_readMember 97 = .ok (.aload_n 0, 1) := by decide +kernel
theorem dX12_readMember_98 : decode cX12_readMember 98 = .ok (.getfield 47, 3) := by decide +kernel
theorem dX12_readMember_101 : decode cX12_readMember 101 = .ok (.iload_n 2, 1) := by decide +kernel
theorem dX12_readMember_102 : decode cX12_readMember 102 = .ok (.iconst 0, 1) := by decide +kernel
theorem dX12_readMember_103 : decode cX12_readMember 103 = .ok (.iastore, 1) := by decide +kernel
theorem dX12_readMember_104 : decode cX12_readMember 104 = .ok (.aload_n 0, 1) := by decide +kernel
theorem dX12_readMember_105 : decode cX12_readMember 105 = .ok (.getfield 50, 3) := by decide +kernel
theorem dX12_readMember_108 : decode cX12_readMember 108 = .ok (.iload_n 2, 1) := by decide +kernel
theorem dX12_readMember_109 : decode cX12_readMember 109 = .ok (.iload_n 1, 1) := by decide +kernel
theorem dX12_readMember_110 : decode cX12_readMember 110 = .ok (.bipush 13, 2) := by decide +kernel
theorem dX12_readMember_112 : decode cX12_readMember 112 = .ok (.isub, 1) := by decide +kernel
theorem dX12_readMember_113 : decode cX12_readMember 113 = .ok (.iastore, 1) := by decide +kernel
theorem dX12_readMember_114 : decode cX12_readMember 114 = .ok (.aload_n 0, 1) := by decide +kernel
theorem dX12_readMember_115 : decode cX12_readMember 115 = .ok (.invokevirtual 271, 3) := by decide +kernel
theorem dX12_readMember_118 : decode cX12_readMember 118 = .ok (.aload_n 0, 1) := by decide +kernel
theorem dX12_readMember_119 : decode cX12_readMember 119 = .ok (.bipush 58, 2) := by decide +kernel
theorem dX12_readMember_121 : decode cX12_readMember 121 = .ok (.invokevirtual 326, 3) := by decide +kernel
theorem dX12_readMember_124 : decode cX12_readMember 124 = .ok (.ifCond .ne 5, 3) := by decide +kernel
theorem dX12_readMember_127 : decode cX12_readMember 127 = .ok (.iconst 0, 1) := by decide +kernel
theorem dX12_readMember_128 : decode cX12_readMember 128 = .ok (.ireturn, 1) := by decide +kernel
theorem dX12_readMember_129 : decode cX12_readMember 129 = .ok (.aload_n 0, 1) := by decide +kernel
theorem dX12_readMember_130 : decode cX12_readMember 130 = .ok (.invokevirtual 284, 3) := by decide +kernel
theorem dX12_readMember_133 : decode cX12_readMember 133 = .ok (.istore_n 3, 1) := by decide +kernel
theorem dX12_readMember_134 : decode cX12_readMember 134 = .ok (.iload_n 3, 1) := by decide +kernel
theorem dX12_readMember_135 : decode cX12_readMember 135 = .ok (.bipush 6, 2) := by decide +kernel
theorem dX12_readMember_137 : decode cX12_readMember 137 = .ok (.if_icmp .eq 9, 3) := by decide +kernel
theorem dX12_readMember_140 : decode cX12_readMember 140 = .ok (.iload_n 3, 1) := by decide +kernel
theorem dX12_readMember_141 : decode cX12_readMember 141 = .ok (.bipush 7, 2) := by decide +kernel
theorem dX12_readMember_143 : decode cX12_readMember 143 = .ok (.if_icmp .ne 162, 3) := by decide +kernel
theorem dX12_readMember_146 : decode cX12_readMember 146 = .ok (.aload_n 0, 1) := by decide +kernel
theorem dX12_readMember_147 : decode cX12_readMember 147 = .ok (.getfield 32, 3) := by decide +kernel
theorem dX12_readMember_150 : decode cX12_readMember 150 = .ok (.iload_n 2, 1) := by decide +kernel
theorem dX12_readMember_151 : decode cX12_readMember 151 = .ok (.iload_n 3, 1) := by decide +kernel
theorem dX12_readMember_152 : decode cX12_readMember 152 = .ok (.bipush 6, 2) := by decide +kernel
theorem dX12_readMember_154 : decode cX12_readMember 154 = .ok (.if_icmp .ne 7, 3) := by decide +kernel
theorem dX12_readMember_157 : decode cX12_readMember 157 = .ok (.iconst 4, 1) := by decide +kernel
theorem dX12_readMember_158 : decode cX12_readMember 158 = .ok (.goto 4, 3) := by decide +kernel
theorem dX12_readMember_161 : decode cX12_readMember 161 = .ok (.iconst 5, 1) := by decide +kernel
theorem dX12_readMember_162 : decode cX12_readMember 162 = .ok (.iastore, 1) := by decide +kernel
theorem dX12_readMember_163 : decode cX12_readMember 163 = .ok (.aload_n 0, 1) := by decide +kernel
theorem dX12_readMember_164 : decode cX12_readMember 164 = .ok (.invokevirtual 271, 3) := by decide +kernel
theorem dX12_readMember_167 : decode cX12_readMember 167 = .ok (.aload_n 0, 1) := by decide +kernel
theorem dX12_readMember_168 : decode cX12_readMember 168 = .ok (.invokevirtual 319, 3) := by decide +kernel
theorem dX12_readMember_171 : decode cX12_readMember 171 = .ok (.ifCond .ne 8, 3) := by decide +kernel
theorem dX12_readMember_174 : decode cX12_readMember 174 = .ok (.aload_n 0, 1) := by decide +kernel
theorem dX12_readMember_175 : decode cX12_readMember 175 = .ok (.invokevirtual 267, 3) := by decide +kernel
theorem dX12_readMember_178 : decode cX12_readMember 178 = .ok (.ireturn, 1) := by decide +kernel
theorem dX12_readMember_179 : decode cX12_readMember 179 = .ok (.aload_n 0, 1) := by decide +kernel
theorem dX12_readMember_180 : decode cX12_readMember 180 = .ok (.getfield 53, 3) := by decide +kernel
theorem dX12_readMember_183 : decode cX12_readMember 183 = .ok (.iload_n 2, 1) := by decide +kernel
theorem dX12_readMember_184 : decode cX12_readMember 184 = .ok (.aload_n 0, 1) := by decide +kernel
theorem dX12_readMember_185 : decode cX12_readMember 185 = .ok (.getfield 246, 3) := by decide +kernel
theorem dX12_readMember_188 : decode cX12_readMember 188 = .ok (.lastore, 1) := by decide +kernel
theorem dX12_readMember_189 : decode cX12_readMember 189 = .ok (.aload_n 0, 1) := by decide +kernel
theorem dX12_readMember_190 : decode cX12_readMember 190 = .ok (.getfield 56, 3) := by decide +kernel
theorem dX12_readMember_193 : decode cX12_readMember 193 = .ok (.iload_n 2, 1) := by decide +kernel
theorem dX12_readMember_194 : decode cX12_readMember 194 = .ok (.aload_n 0, 1) := by decide +kernel
theorem dX12_readMember_195 : decode cX12_readMember 195 = .ok (.getfield 237, 3) := by decide +kernel
theorem dX12_readMember_198 : decode cX12_readMember 198 = .ok (.iastore, 1) := by decide +kernel
theorem dX12_readMember_199 : decode cX12_readMember 199 = .ok (.aload_n 0, 1) := by decide +kernel
theorem dX12_readMember_200 : decode cX12_readMember 200 = .ok (.invokevirtual 271, 3) := by decide +kernel
theorem dX12_readMember_203 : decode cX12_readMember 203 = .ok (.iload_n 3, 1) := by decide +kernel
theorem dX12_readMember_204 : decode cX12_readMember 204 = .ok (.bipush 7, 2) := by decide +kernel
theorem dX12_readMember_206 : decode cX12_readMember 206 = .ok (.if_icmp .ne 53, 3) := by decide +kernel
theorem dX12_readMember_209 : decode cX12_readMember 209 = .ok (.aload_n 0, 1) := by decide +kernel
theorem dX12_readMember_210 : decode cX12_readMember 210 = .ok (.bipush 8, 2) := by decide +kernel
theorem dX12_readMember_212 : decode cX12_readMember 212 = .ok (.invokevirtual 297, 3) := by decide +kernel
theorem dX12_readMember_215 : decode cX12_readMember 215 = .ok (.ifCond .ne 5, 3) := by decide +kernel
theorem dX12_readMember_218 : decode cX12_readMember 218 = .ok (.iconst 0, 1) := by decide +kernel
theorem dX12_readMember_219 : decode cX12_readMember 219 = .ok (.ireturn, 1) := by decide +kernel
theorem dX12_readMember_220 : decode cX12_readMember 220 = .ok (.aload_n 0, 1) := by decide +kernel
theorem dX12_readMember_221 : decode cX12_readMember 221 = .ok (.invokevirtual 319, 3) := by decide +kernel
theorem dX12_readMember_224 : decode cX12_readMember 224 = .ok (.ifCond .ne 8, 3) := by decide +kernel
theorem dX12_readMember_227 : decode cX12_readMember 227 = .ok (.aload_n 0, 1) := by decide +kernel
theorem dX12_readMember_228 : decode cX12_readMember 228 = .ok (.invokevirtual 267, 3) := by decide +kernel
theorem dX12_readMember_231 : decode cX12_readMember 231 = .ok (.ireturn, 1) := by decide +kernel
theorem dX12_readMember_232 : decode cX12_readMember 232 = .ok (.aload_n 0, 1) := by decide +kernel
theorem dX12_readMember_233 : decode cX12_readMember 233 = .ok (.getfield 59, 3) := by decide +kernel
theorem dX12_readMember_236 : decode cX12_readMember 236 = .ok (.iload_n 2, 1) := by decide +kernel
theorem dX12_readMember_237 : decode cX12_readMember 237 = .ok (.aload_n 0, 1) := by decide +kernel
theorem dX12_readMember_238 : decode cX12_readMember 238 = .ok (.getfield 246, 3) := by decide +kernel
theorem dX12_readMember_241 : decode cX12_readMember 241 = .ok (.lastore, 1) := by decide +kernel
theorem dX12_readMember_242 : decode cX12_readMember 242 = .ok (.aload_n 0, 1) := by decide +kernel
theorem dX12_readMember_243 : decode cX12_readMember 243 = .ok (.getfield 62, 3) := by decide +kernel
theorem dX12_readMember_246 : decode cX12_readMember 246 = .ok (.iload_n 2, 1) := by decide +kernel
theorem dX12_readMember_247 : decode cX12_readMember 247 = .ok (.aload_n 0, 1) := by decide +kernel
theorem dX12_readMember_248 : decode cX12_readMember 248 = .ok (.getfield 237, 3) := by decide +kernel
theorem dX12_readMember_251 : decode cX12_readMember 251 = .ok (.iastore, 1) := by decide +kernel
theorem dX12_readMember_252 : decode cX12_readMember 252 = .ok (.aload_n 0, 1) := by decide +kernel
theorem dX12_readMember_253 : decode cX12_readMember 253 = .ok (.invokevirtual 271, 3) := by decide +kernel
theorem dX12_readMember_256 : decode cX12_readMember 256 = .ok (.goto 23, 3) := by decide +kernel
theorem dX12_readMember_259 : decode cX12_readMember 259 = .ok (.aload_n 0, 1) := by decide +kernel
theorem dX12_readMember_260 : decode cX12_readMember 260 = .ok (.invokevirtual 284, 3) := by decide +kernel
theorem dX12_readMember_263 : decode cX12_readMember 263 = .ok (.bipush 9, 2) := by decide +kernel
theorem dX12_readMember_265 : decode cX12_readMember 265 = .ok (.if_icmp .ne 14, 3) := by decide +kernel
theorem dX12_readMember_268 : decode cX12_readMember 268 = .ok (.aload_n 0, 1) := by decide +kernel
theorem dX12_readMember_269 : decode cX12_readMember 269 = .ok (.getfield 44, 3) := by decide +kernel
theorem dX12_readMember_272 : decode cX12_readMember 272 = .ok (.iload_n 2, 1) := by decide +kernel
theorem dX12_readMember_273 : decode cX12_readMember 273 = .ok (.iconst 2, 1) := by decide +kernel
theorem dX12_readMember_274 : decode cX12_readMember 274 = .ok (.iastore, 1) := by decide +kernel
theorem dX12_readMember_275 : decode cX12_readMember 275 = .ok (.aload_n 0, 1) := by decide +kernel
theorem dX12_readMember_276 : decode cX12_readMember 276 = .ok (.invokevirtual 271, 3) := by decide +kernel
theorem dX12_readMember_279 : decode cX12_readMember 279 = .ok (.aload_n 0, 1) := by decide +kernel
theorem dX12_readMember_280 : decode cX12_readMember 280 = .ok (.invokevirtual 284, 3) := by decide +kernel
theorem dX12_readMember_283 : decode cX12_readMember 283 = .ok (.bipush 10, 2) := by decide +kernel
theorem dX12_readMember_285 : decode cX12_readMember 285 = .ok (.if_icmp .ne 85, 3) := by decide +kernel
theorem dX12_readMember_288 : decode cX12_readMember 288 = .ok (.aload_n 0, 1) := by decide +kernel
theorem dX12_readMember_289 : decode cX12_readMember 289 = .ok (.getfield 44, 3) := by decide +kernel
theorem dX12_readMember_292 : decode cX12_readMember 292 = .ok (.iload_n 2, 1) := by decide +kernel
theorem dX12_readMember_293 : decode cX12_readMember 293 = .ok (.dup2, 1) := by decide +kernel
theorem dX12_readMember_294 : decode cX12_readMember 294 = .ok (.iaload, 1) := by decide +kernel
theorem dX12_readMember_295 : decode cX12_readMember 295 = .ok (.iconst 4, 1) := by decide +kernel
theorem dX12_readMember_296 : decode cX12_readMember 296 = .ok (.iadd, 1) := by decide +kernel
theorem dX12_readMember_297 : decode cX12_readMember 297 = .ok (.iastore, 1) := by decide +kernel
theorem dX12_readMember_298 : decode cX12_readMember 298 = .ok (.aload_n 0, 1) := by decide +kernel
theorem dX12_readMember_299 : decode cX12_readMember 299 = .ok (.invokevirtual 271, 3) := by decide +kernel
theorem dX12_readMember_302 : decode cX12_readMember 302 = .ok (.goto 68, 3) := by decide +kernel
theorem dX12_readMember_305 : decode cX12_readMember 305 = .ok (.iload_n 3, 1) := by decide +kernel
theorem dX12_readMember_306 : decode cX12_readMember 306 = .ok (.bipush 12, 2) := by decide +kernel
theorem dX12_readMember_308 : decode cX12_readMember 308 = .ok (.if_icmp .eq 15, 3) := by decide +kernel
theorem dX12_readMember_311 : decode cX12_readMember 311 = .ok (.iload_n 3, 1) := by decide +kernel
theorem dX12_readMember_312 : decode cX12_readMember 312 = .ok (.bipush 13, 2) := by decide +kernel
theorem dX12_readMember_314 : decode cX12_readMember 314 = .ok (.if_icmp .eq 9, 3) := by decide +kernel
theorem dX12_readMember_317 : decode cX12_readMember 317 = .ok (.iload_n 3, 1) := by decide +kernel
theorem dX12_readMember_318 : decode cX12_readMember 318 = .ok (.bipush 14, 2) := by decide +kernel
theorem dX12_readMember_320 : decode cX12_readMember 320 = .ok (.if_icmp .ne 20, 3) := by decide +kernel
theorem dX12_readMember_323 : decode cX12_readMember 323 = .ok (.aload_n 0, 1) := by decide +kernel
theorem dX12_readMember_324 : decode cX12_readMember 324 = .ok (.getfield 32, 3) := by decide +kernel
theorem dX12_readMember_327 : decode cX12_readMember 327 = .ok (.iload_n 2, 1) := by decide +kernel
theorem dX12_readMember_328 : decode cX12_readMember 328 = .ok (.iload_n 3, 1) := by decide +kernel
theorem dX12_readMember_329 : decode cX12_readMember 329 = .ok (.bipush 12, 2) := by decide +kernel
theorem dX12_readMember_331 : decode cX12_readMember 331 = .ok (.isub, 1) := by decide +kernel
theorem dX12_readMember_332 : decode cX12_readMember 332 = .ok (.iastore, 1) := by decide +kernel
theorem dX12_readMember_333 : decode cX12_readMember 333 = .ok (.aload_n 0, 1) := by decide +kernel
theorem dX12_readMember_334 : decode cX12_readMember 334 = .ok (.invokevirtual 271, 3) := by decide +kernel
theorem dX12_readMember_337 : decode cX12_readMember 337 = .ok (.goto 13, 3) := by decide +kernel
theorem dX12_readMember_340 : decode cX12_readMember 340 = .ok (.aload_n 0, 1) := by decide +kernel
theorem dX12_readMember_341 : decode cX12_readMember 341 = .ok (.iload_n 2, 1) := by decide +kernel
theorem dX12_readMember_342 : decode cX12_readMember 342 = .ok (.invokevirtual 335, 3) := by decide +kernel
theorem dX12_readMember_345 : decode cX12_readMember 345 = .ok (.ifCond .ne 5, 3) := by decide +kernel
theorem dX12_readMember_348 : decode cX12_readMember 348 = .ok (.iconst 0, 1) := by decide +kernel
theorem dX12_readMember_349 : decode cX12_readMember 349 = .ok (.ireturn, 1) := by decide +kernel
theorem dX12_readMember_350 : decode cX12_readMember 350 = .ok (.aload_n 0, 1) := by decide +kernel
theorem dX12_readMember_351 : decode cX12_readMember 351 = .ok (.invokevirtual 284, 3) := by decide +kernel
theorem dX12_readMember_354 : decode cX12_readMember 354 = .ok (.bipush 11, 2) := by decide +kernel
theorem dX12_readMember_356 : decode cX12_readMember 356 = .ok (.if_icmp .ne 14, 3) := by decide +kernel
theorem dX12_readMember_359 : decode cX12_readMember 359 = .ok (.aload_n 0, 1) := by decide +kernel
theorem dX12_readMember_360 : decode cX12_readMember 360 = .ok (.getfield 44, 3) := by decide +kernel
theorem dX12_readMember_363 : decode cX12_readMember 363 = .ok (.iload_n 2, 1) := by decide +kernel
theorem dX12_readMember_364 : decode cX12_readMember 364 = .ok (.iconst 1, 1) := by decide +kernel
theorem dX12_readMember_365 : decode cX12_readMember 365 = .ok (.iastore, 1) := by decide +kernel
theorem dX12_readMember_366 : decode cX12_readMember 366 = .ok (.aload_n 0, 1) := by decide +kernel
theorem dX12_readMember_367 : decode cX12_readMember 367 = .ok (.invokevirtual 271, 3) := by decide +kernel
theorem dX12_readMember_370 : decode cX12_readMember 370 = .ok (.aload_n 0, 1) := by decide +kernel
theorem dX12_readMember_371 : decode cX12_readMember 371 = .ok (.bipush 59, 2) := by decide +kernel
theorem dX12_readMember_373 : decode cX12_readMember 373 = .ok (.invokevirtual 326, 3) := by decide +kernel
theorem dX12_readMember_376 : decode cX12_readMember 376 = .ok (.ifCond .ne 5, 3) := by decide +kernel
theorem dX12_readMember_379 : decode cX12_readMember 379 = .ok (.iconst 0, 1) := by decide +kernel
theorem dX12_readMember_380 : decode cX12_readMember 380 = .ok (.ireturn, 1) := by decide +kernel
theorem dX12_readMember_381 : decode cX12_readMember 381 = .ok (.aload_n 0, 1) := by decide +kernel
theorem dX12_readMember_382 : decode cX12_readMember 382 = .ok (.getfield 23, 3) := by decide +kernel
theorem dX12_readMember_385 : decode cX12_readMember 385 = .ok (.iload_n 1, 1) := by decide +kernel
theorem dX12_readMember_386 : decode cX12_readMember 386 = .ok (.dup2, 1) := by decide +kernel
theorem dX12_readMember_387 : decode cX12_readMember 387 = .ok (.iaload, 1) := by decide +kernel
theorem dX12_readMember_388 : decode cX12_readMember 388 = .ok (.iconst 1, 1) := by decide +kernel
theorem dX12_readMember_389 : decode cX12_readMember 389 = .ok (.iadd, 1) := by decide +kernel
theorem dX12_readMember_390 : decode cX12_readMember 390 = .ok (.iastore, 1) := by decide +kernel
theorem dX12_readMember_391 : decode cX12_readMember 391 = .ok (.iconst 1, 1) := by decide +kernel
theorem dX12_readMember_392 : decode cX12_readMember 392 = .ok (.ireturn, 1) := by decide +kernel
theorem dX12_readNames_0 : decode cX12_readNames 0 = .ok (.aload_n 0, 1) := by decide +kernel
theorem dX12_readNames_1 : decode cX12_readNames 1 = .ok (.bipush 40, 2) := by decide +kernel
theorem dX12_readNames_3 : decode cX12_readNames 3 = .ok (.invokevirtual 264, 3) := by decide +kernel
theorem dX12_readNames_6 : decode cX12_readNames 6 = .ok (.ifCond .ne 8, 3) := by decide +kernel
theorem dX12_readNames_9 : decode cX12_readNames 9 = .ok (.aload_n 0, 1) := by decide +kernel
theorem dX12_readNames_10 : decode cX12_readNames 10 = .ok (.invokevirtual 267, 3) := by decide +kernel
theorem dX12_readNames_13 : decode cX12_readNames 13 = .ok (.ireturn, 1) := by decide +kernel
theorem dX12_readNames_14 : decode cX12_readNames 14 = .ok (.aload_n 0, 1) := by decide +kernel
theorem dX12_readNames_15 : decode cX12_readNames 15 = .ok (.getfield 32, 3) := by decide +kernel
theorem dX12_readNames_18 : decode cX12_readNames 18 = .ok (.iload_n 1, 1) := by decide +kernel
theorem dX12_readNames_19 : decode cX12_readNames 19 = .ok (.iconst 3, 1) := by decide +kernel
theorem dX12_readNames_20 : decode cX12_readNames 20 = .ok (.iastore, 1) := by decide +kernel
theorem dX12_readNames_21 : decode cX12_readNames 21 = .ok (.aload_n 0, 1) := by decide +kernel
theorem dX12_readNames_22 : decode cX12_readNames 22 = .ok (.getfield 38, 3) := by decide +kernel
theorem dX12_readNames_25 : decode cX12_readNames 25 = .ok (.iload_n 1, 1) := by decide +kernel
theorem dX12_readNames_26 : decode cX12_readNames 26 = .ok (.aload_n 0, 1) := by decide +kernel
theorem dX12_readNames_27 : decode cX12_readNames 27 = .ok (.getfield 294, 3) := by decide +kernel
theorem dX12_readNames_30 : decode cX12_readNames 30 = .ok (.iastore, 1) := by decide +kernel
theorem dX12_readNames_31 : decode cX12_readNames 31 = .ok (.iconst 1, 1) := by decide +kernel
theorem dX12_readNames_32 : decode cX12_readNames 32 = .ok (.istore_n 2, 1) := by decide +kernel
theorem dX12_readNames_33 : decode cX12_readNames 33 = .ok (.iload_n 2, 1) := by decide +kernel
theorem dX12_readNames_34 : decode cX12_readNames 34 = .ok (.ifCond .eq 111, 3) := by decide +kernel
theorem dX12_readNames_37 : decode cX12_readNames 37 = .ok (.aload_n 0, 1) := by decide +kernel
theorem dX12_readNames_38 : decode cX12_readNames 38 = .ok (.invokevirtual 271, 3) := by decide +kernel
theorem dX12_readNames_41 : decode cX12_readNames 41 = .ok (.aload_n 0, 1) := by decide +kernel
theorem dX12_readNames_42 : decode cX12_readNames 42 = .ok (.invokevirtual 319, 3) := by decide +kernel
theorem dX12_readNames_45 : decode cX12_readNames 45 = .ok (.ifCond .ne 8, 3) := by decide +kernel
theorem dX12_readNames_48 : decode cX12_readNames 48 = .ok (.aload_n 0, 1) := by decide +kernel
theorem dX12_readNames_49 : decode cX12_readNames 49 = .ok (.invokevirtual 267, 3) := by decide +kernel
theorem dX12_readNames_52 : decode cX12_readNames 52 = .ok (.ireturn, 1) := by decide +kernel
theorem dX12_readNames_53 : decode cX12_readNames 53 = .ok (.iconst 0, 1) := by decide +kernel
theorem dX12_readNames_54 : decode cX12_readNames 54 = .ok (.istore_n 3, 1) := by decide +kernel
theorem dX12_readNames_55 : decode cX12_readNames 55 = .ok (.iload_n 3, 1) := by decide +kernel
theorem dX12_readNames_56 : decode cX12_readNames 56 = .ok (.aload_n 0, 1) := by decide +kernel
theorem dX12_readNames_57 : decode cX12_readNames 57 = .ok (.getfield 41, 3) := by decide +kernel
theorem dX12_readNames_60 : decode cX12_readNames 60 = .ok (.iload_n 1, 1) := by decide +kernel
theorem dX12_readNames_61 : decode cX12_readNames 61 = .ok (.iaload, 1) := by decide +kernel
theorem dX12_readNames_62 : decode cX12_readNames 62 = .ok (.if_icmp .ge 36, 3) := by decide +kernel
theorem dX12_readNames_65 : decode cX12_readNames 65 = .ok (.aload_n 0, 1) := by decide +kernel
theorem dX12_readNames_66 : decode cX12_readNames 66 = .ok (.getfield 74, 3) := by decide +kernel
theorem dX12_readNames_69 : decode cX12_readNames 69 = .ok (.aload_n 0, 1) := by decide +kernel
theorem dX12_readNames_70 : decode cX12_readNames 70 = .ok (.getfield 38, 3) := by decide +kernel
theorem dX12_readNames_73 : decode cX12_readNames 73 = .ok (.iload_n 1, 1) := by decide +kernel
theorem dX12_readNames_74 : decode cX12_readNames 74 = .ok (.iaload, 1) := by decide +kernel
theorem dX12_readNames_75 : decode cX12_readNames 75 = .ok (.iload_n 3, 1) := by decide +kernel
theorem dX12_readNames_76 : decode cX12_readNames 76 = .ok (.iadd, 1) := by decide +kernel
theorem dX12_readNames_77 : decode cX12_readNames 77 = .ok (.laload, 1) := by decide +kernel
theorem dX12_readNames_78 : decode cX12_readNames 78 = .ok (.aload_n 0, 1) := by decide +kernel
theorem dX12_readNames_79 : decode cX12_readNames 79 = .ok (.getfield 246, 3) := by decide +kernel
theorem dX12_readNames_82 : decode cX12_readNames 82 = .ok (.lcmp, 1) := by decide +kernel
theorem dX12_readNames_83 : decode cX12_readNames 83 = .ok (.ifCond .ne 9, 3) := by decide +kernel
theorem dX12_readNames_86 : decode cX12_readNames 86 = .ok (.aload_n 0, 1) := by decide +kernel
theorem dX12_readNames_87 : decode cX12_readNames 87 = .ok (.iconst 3, 1) := by decide +kernel
theorem dX12_readNames_88 : decode cX12_readNames 88 = .ok (.invokevirtual 261, 3) := by decide +kernel
theorem dX12_readNames_91 : decode cX12_readNames 91 = .ok (.ireturn, 1) := by decide +kernel
theorem dX12_readNames_92 : decode cX12_readNames 92 = .ok (.iinc 3 1, 3) := by decide +kernel
theorem dX12_readNames_95 : decode cX12_readNames 95 = .ok (.goto (-40), 3) := by decide +kernel
theorem dX12_readNames_98 : decode cX12_readNames 98 = .ok (.aload_n 0, 1) := by decide +kernel
theorem dX12_readNames_99 : decode cX12_readNames 99 = .ok (.getfield 74, 3) := by decide +kernel
theorem dX12_readNames_102 : decode cX12_readNames 102 = .ok (.aload_n 0, 1) := by decide +kernel
theorem dX12_readNames_103 : decode cX12_readNames 103 = .ok (.getfield 294, 3) := by decide +kernel
theorem dX12_readNames_106 : decode cX12_readNames 106 = .ok (.aload_n 0, 1) := by decide +kernel
theorem dX12_readNames_107 : decode cX12_readNames 107 = .ok (.getfield 246, 3) := by decide +kernel
theorem dX12_readNames_110 : decode cX12_readNames 110 = .ok (.lastore, 1) := by decide +kernel
theorem dX12_readNames_111 : decode cX12_readNames 111 = .ok (.aload_n 0, 1) := by decide +kernel
theorem dX12_readNames_112 : decode cX12_readNames 112 = .ok (.dup, 1) := by decide +kernel
theorem dX12_readNames_113 : decode cX12_readNames 113 = .ok (.getfield 294, 3) := by decide +kernel
theorem dX12_readNames_116 : decode cX12_readNames 116 = .ok (.iconst 1, 1) := by decide +kernel
theorem dX12_readNames_117 : decode cX12_readNames 117 = .ok (.iadd, 1) := by decide +kernel
theorem dX12_readNames_118 : decode cX12_readNames 118 = .ok (.putfield 294, 3) := by decide +kernel
theorem dX12_readNames_121 : decode cX12_readNames 121 = .ok (.aload_n 0, 1) := by decide +kernel
theorem dX12_readNames_122 : decode cX12_readNames 122 = .ok (.getfield 41, 3) := by decide +kernel
theorem dX12_readNames_125 : decode cX12_readNames 125 = .ok (.iload_n 1, 1) := by decide +kernel
theorem dX12_readNames_126 : decode cX12_readNames 126 = .ok (.dup2, 1) := by decide +kernel
theorem dX12_readNames_127 : decode cX12_readNames 127 = .ok (.iaload, 1) := by decide +kernel
theorem dX12_readNames_128 : decode cX12_readNames 128 = .ok (.iconst 1, 1) := by decide +kernel
theorem dX12_readNames_129 : decode cX12_readNames 129 = .ok (.iadd, 1) := by decide +kernel
theorem dX12_readNames_130 : decode cX12_readNames 130 = .ok (.iastore, 1) := by decide +kernel
theorem dX12_readNames_131 : decode cX12_readNames 131 = .ok (.aload_n 0, 1) := by decide +kernel
theorem dX12_readNames_132 : decode cX12_readNames 132 = .ok (.invokevirtual 271, 3) := by decide +kernel
theorem dX12_readNames_135 : decode cX12_readNames 135 = .ok (.aload_n 0, 1) := by decide +kernel
theorem dX12_readNames_136 : decode cX12_readNames 136 = .ok (.bipush 44, 2) := by decide +kernel
theorem dX12_readNames_138 : decode cX12_readNames 138 = .ok (.invokevirtual 264, 3) := by decide +kernel
theorem dX12_readNames_141 : decode cX12_readNames 141 = .ok (.istore_n 2, 1) := by decide +kernel
theorem dX12_readNames_142 : decode cX12_readNames 142 = .ok (.goto (-109), 3) := by decide +kernel
theorem dX12_readNames_145 : decode cX12_readNames 145 = .ok (.aload_n 0, 1) := by decide +kernel
theorem dX12_readNames_146 : decode cX12_readNames 146 = .ok (.bipush 41, 2) := by decide +kernel
theorem dX12_readNames_148 : decode cX12_readNames 148 = .ok (.invokevirtual 326, 3) := by decide +kernel
theorem dX12_readNames_151 : decode cX12_readNames 151 = .ok (.ireturn, 1) := by decide +kernel
theorem dX12_readHook_0 : decode cX12_readHook 0 = .ok (.aload_n 0, 1) := by decide +kernel
theorem dX12_readHook_1 : decode cX12_readHook 1 = .ok (.getfield 26, 3) := by decide +kernel
theorem dX12_readHook_4 : decode cX12_readHook 4 = .ok (.iload_n 1, 1) := by decide +kernel
theorem dX12_readHook_5 : decode cX12_readHook 5 = .ok (.iaload, 1) := by decide +kernel
theorem dX12_readHook_6 : decode cX12_readHook 6 = .ok (.iconst 4, 1) := by decide +kernel
theorem dX12_readHook_7 : decode cX12_readHook 7 = .ok (.if_icmp .ne 9, 3) := by decide +kernel
theorem dX12_readHook_10 : decode cX12_readHook 10 = .ok (.aload_n 0, 1) := by decide +kernel
theorem dX12_readHook_11 : decode cX12_readHook 11 = .ok (.iconst 4, 1) := by decide +kernel
theorem dX12_readHook_12 : decode cX12_readHook 12 = .ok (.invokevirtual 261, 3) := by decide +kernel
theorem dX12_readHook_15 : decode cX12_readHook 15 = .ok (.ireturn, 1) := by decide +kernel
theorem dX12_readHook_16 : decode cX12_readHook 16 = .ok (.aload_n 0, 1) := by decide +kernel
theorem dX12_readHook_17 : decode cX12_readHook 17 = .ok (.invokevirtual 271, 3) := by decide +kernel
theorem dX12_readHook_20 : decode cX12_readHook 20 = .ok (.aload_n 0, 1) := by decide +kernel
theorem dX12_readHook_21 : decode cX12_readHook 21 = .ok (.invokevirtual 284, 3) := by decide +kernel
theorem dX12_readHook_24 : decode cX12_readHook 24 = .ok (.istore_n 2, 1) := by decide +kernel
theorem dX12_readHook_25 : decode cX12_readHook 25 = .ok (.iload_n 2, 1) := by decide +kernel
theorem dX12_readHook_26 : decode cX12_readHook 26 = .ok (.bipush 16, 2) := by decide +kernel
theorem dX12_readHook_28 : decode cX12_readHook 28 = .ok (.if_icmp .eq 14, 3) := by decide +kernel
theorem dX12_readHook_31 : decode cX12_readHook 31 = .ok (.iload_n 2, 1) := by decide +kernel
theorem dX12_readHook_32 : decode cX12_readHook 32 = .ok (.bipush 17, 2) := by decide +kernel
theorem dX12_readHook_34 : decode cX12_readHook 34 = .ok (.if_icmp .eq 8, 3) := by decide +kernel
theorem dX12_readHook_37 : decode cX12_readHook 37 = .ok (.aload_n 0, 1) := by decide +kernel
theorem dX12_readHook_38 : decode cX12_readHook 38 = .ok (.invokevirtual 267, 3) := by decide +kernel
theorem dX12_readHook_41 : decode cX12_readHook 41 = .ok (.ireturn, 1) := by decide +kernel
theorem dX12_readHook_42 : decode cX12_readHook 42 = .ok (.aload_n 0, 1) := by decide +kernel
theorem dX12_readHook_43 : decode cX12_readHook 43 = .ok (.invokevirtual 271, 3) := by decide +kernel
theorem dX12_readHook_46 : decode cX12_readHook 46 = .ok (.aload_n 0, 1) := by decide +kernel
theorem dX12_readHook_47 : decode cX12_readHook 47 = .ok (.invokevirtual 319, 3) := by decide +kernel
theorem dX12_readHook_50 : decode cX12_readHook 50 = .ok (.ifCond .ne 8, 3) := by decide +kernel
theorem dX12_readHook_53 : decode cX12_readHook 53 = .ok (.aload_n 0, 1) := by decide +kernel
theorem dX12_readHook_54 : decode cX12_readHook 54 = .ok (.invokevirtual 267, 3) := by decide +kernel
theorem dX12_readHook_57 : decode cX12_readHook 57 = .ok (.ireturn, 1) := by decide +kernel
theorem dX12_readHook_58 : decode cX12_readHook 58 = .ok (.aload_n 0, 1) := by decide +kernel
theorem dX12_readHook_59 : decode cX12_readHook 59 = .ok (.iload_n 1, 1) := by decide +kernel
theorem dX12_readHook_60 : decode cX12_readHook 60 = .ok (.aload_n 0, 1) := by decide +kernel
theorem dX12_readHook_61 : decode cX12_readHook 61 = .ok (.getfield 246, 3) := by decide +kernel
theorem dX12_readHook_64 : decode cX12_readHook 64 = .ok (.invokevirtual 311, 3) := by decide +kernel
theorem dX12_readHook_67 : decode cX12_readHook 67 = .ok (.istore_n 3, 1) := by decide +kernel
theorem dX12_readHook_68 : decode cX12_readHook 68 = .ok (.iload_n 3, 1) := by decide +kernel
theorem dX12_readHook_69 : decode cX12_readHook 69 = .ok (.ifCond .lt 17, 3) := by decide +kernel
theorem dX12_readHook_72 : decode cX12_readHook 72 = .ok (.aload_n 0, 1) := by decide +kernel
theorem dX12_readHook_73 : decode cX12_readHook 73 = .ok (.getfield 32, 3) := by decide +kernel
theorem dX12_readHook_76 : decode cX12_readHook 76 = .ok (.bipush 16, 2) := by decide +kernel
theorem dX12_readHook_78 : decode cX12_readHook 78 = .ok (.iload_n 1, 1) := by decide +kernel
theorem dX12_readHook_79 : decode cX12_readHook 79 = .ok (.imul, 1) := by decide +kernel
theorem dX12_readHook_80 : decode cX12_readHook 80 = .ok (.iload_n 3, 1) := by decide +kernel
theorem dX12_readHook_81 : decode cX12_readHook 81 = .ok (.iadd, 1) := by decide +kernel
theorem dX12_readHook_82 : decode cX12_readHook 82 = .ok (.iaload, 1) := by decide +kernel
theorem dX12_readHook_83 : decode cX12_readHook 83 = .ok (.ifCond .eq 9, 3) := by decide +kernel
theorem dX12_readHook_86 : decode cX12_readHook 86 = .ok (.aload_n 0, 1) := by decide +kernel
theorem dX12_readHook_87 : decode cX12_readHook 87 = .ok (.iconst 3, 1) := by decide +kernel
theorem dX12_readHook_88 : decode cX12_readHook 88 = .ok (.invokevirtual 261, 3) := by decide +kernel
theorem dX12_readHook_91 : decode cX12_readHook 91 = .ok (.ireturn, 1) := by decide +kernel
theorem dX12_readHook_92 : decode cX12_readHook 92 = .ok (.iconst 4, 1) := by decide +kernel
theorem dX12_readHook_93 : decode cX12_readHook 93 = .ok (.iload_n 1, 1) := by decide +kernel
theorem dX12_readHook_94 : decode cX12_readHook 94 = .ok (.imul, 1) := by decide +kernel
theorem dX12_readHook_95 : decode cX12_readHook 95 = .ok (.aload_n 0, 1) := by decide +kernel
theorem dX12_readHook_96 : decode cX12_readHook 96 = .ok (.getfield 26, 3) := by decide +kernel
theorem dX12_readHook_99 : decode cX12_readHook 99 = .ok (.iload_n 1, 1) := by decide +kernel
theorem dX12_readHook_100 : decode cX12_readHook 100 = .ok (.iaload, 1) := by decide +kernel
theorem dX12_readHook_101 : decode cX12_readHook 101 = .ok (.iadd, 1) := by decide +kernel
theorem dX12_readHook_102 : decode cX12_readHook 102 = .ok (.istore 4, 2) := by decide +kernel
theorem dX12_readHook_104 : decode cX12_readHook 104 = .ok (.aload_n 0, 1) := by decide +kernel
theorem dX12_readHook_105 : decode cX12_readHook 105 = .ok (.getfield 65, 3) := by decide +kernel
theorem dX12_readHook_108 : decode cX12_readHook 108 = .ok (.iload 4, 2) := by decide +kernel
theorem dX12_readHook_110 : decode cX12_readHook 110 = .ok (.iload_n 2, 1) := by decide +kernel
theorem dX12_readHook_111 : decode cX12_readHook 111 = .ok (.bipush 16, 2) := by decide +kernel
theorem dX12_readHook_113 : decode cX12_readHook 113 = .ok (.isub, 1) := by decide +kernel
theorem dX12_readHook_114 : decode cX12_readHook 114 = .ok (.iastore, 1) := by decide +kernel
theorem dX12_readHook_115 : decode cX12_readHook 115 = .ok (.aload_n 0, 1) := by decide +kernel
theorem dX12_readHook_116 : decode cX12_readHook 116 = .ok (.getfield 68, 3) := by decide +kernel
theorem dX12_readHook_119 : decode cX12_readHook 119 = .ok (.iload 4, 2) := by decide +kernel
theorem dX12_readHook_121 : decode cX12_readHook 121 = .ok (.iload_n 3, 1) := by decide +kernel
theorem dX12_readHook_122 : decode cX12_readHook 122 = .ok (.iastore, 1) := by decide +kernel
theorem dX12_readHook_123 : decode cX12_readHook 123 = .ok (.aload_n 0, 1) := by decide +kernel
theorem dX12_readHook_124 : decode cX12_readHook 124 = .ok (.invokevirtual 271, 3) := by decide +kernel
theorem dX12_readHook_127 : decode cX12_readHook 127 = .ok (.aload_n 0, 1) := by decide +kernel
theorem dX12_readHook_128 : decode cX12_readHook 128 = .ok (.bipush 43, 2) := by decide +kernel
theorem dX12_readHook_130 : decode cX12_readHook 130 = .ok (.invokevirtual 326, 3) := by decide +kernel
theorem dX12_readHook_133 : decode cX12_readHook 133 = .ok (.ifCond .ne 5, 3) := by decide +kernel
theorem dX12_readHook_136 : decode cX12_readHook 136 = .ok (.iconst 0, 1) := by decide +kernel
theorem dX12_readHook_137 : decode cX12_readHook 137 = .ok (.ireturn, 1) := by decide +kernel
theorem dX12_readHook_138 : decode cX12_readHook 138 = .ok (.aload_n 0, 1) := by decide +kernel
theorem dX12_readHook_139 : decode cX12_readHook 139 = .ok (.getfield 243, 3) := by decide +kernel
theorem dX12_readHook_142 : decode cX12_readHook 142 = .ok (.iconst 3, 1) := by decide +kernel
theorem dX12_readHook_143 : decode cX12_readHook 143 = .ok (.if_icmp .eq 8, 3) := by decide +kernel
theorem dX12_readHook_146 : decode cX12_readHook 146 = .ok (.aload_n 0, 1) := by decide +kernel
theorem dX12_readHook_147 : decode cX12_readHook 147 = .ok (.invokevirtual 267, 3) := by decide +kernel
theorem dX12_readHook_150 : decode cX12_readHook 150 = .ok (.ireturn, 1) := by decide +kernel
theorem dX12_readHook_151 : decode cX12_readHook 151 = .ok (.aload_n 0, 1) := by decide +kernel
theorem dX12_readHook_152 : decode cX12_readHook 152 = .ok (.getfield 71, 3) := by decide +kernel
theorem dX12_readHook_155 : decode cX12_readHook 155 = .ok (.iload 4, 2) := by decide +kernel
theorem dX12_readHook_157 : decode cX12_readHook 157 = .ok (.aload_n 0, 1) := by decide +kernel
theorem dX12_readHook_158 : decode cX12_readHook 158 = .ok (.getfield 252, 3) := by decide +kernel
theorem dX12_readHook_161 : decode cX12_readHook 161 = .ok (.iastore, 1) := by decide +kernel
theorem dX12_readHook_162 : decode cX12_readHook 162 = .ok (.aload_n 0, 1) := by decide +kernel
theorem dX12_readHook_163 : decode cX12_readHook 163 = .ok (.getfield 26, 3) := by decide +kernel
theorem dX12_readHook_166 : decode cX12_readHook 166 = .ok (.iload_n 1, 1) := by decide +kernel
theorem dX12_readHook_167 : decode cX12_readHook 167 = .ok (.dup2, 1) := by decide +kernel
theorem dX12_readHook_168 : decode cX12_readHook 168 = .ok (.iaload, 1) := by decide +kernel
theorem dX12_readHook_169 : decode cX12_readHook 169 = .ok (.iconst 1, 1) := by decide +kernel
theorem dX12_readHook_170 : decode cX12_readHook 170 = .ok (.iadd, 1) := by decide +kernel
theorem dX12_readHook_171 : decode cX12_readHook 171 = .ok (.iastore, 1) := by decide +kernel
theorem dX12_readHook_172 : decode cX12_readHook 172 = .ok (.aload_n 0, 1) := by decide +kernel
theorem dX12_readHook_173 : decode cX12_readHook 173 = .ok (.invokevirtual 271, 3) := by decide +kernel
theorem dX12_readHook_176 : decode cX12_readHook 176 = .ok (.aload_n 0, 1) := by decide +kernel
theorem dX12_readHook_177 : decode cX12_readHook 177 = .ok (.bipush 59, 2) := by decide +kernel
theorem dX12_readHook_179 : decode cX12_readHook 179 = .ok (.invokevirtual 326, 3) := by decide +kernel
theorem dX12_readHook_182 : decode cX12_readHook 182 = .ok (.ireturn, 1) := by decide +kernel
theorem dX12_map_0 : decode cX12_map 0 = .ok (.aload_n 0, 1) := by decide +kernel
theorem dX12_map_1 : decode cX12_map 1 = .ok (.iconst 0, 1) := by decide +kernel
theorem dX12_map_2 : decode cX12_map 2 = .ok (.putfield 258, 3) := by decide +kernel
theorem dX12_map_5 : decode cX12_map 5 = .ok (.aload_n 0, 1) := by decide +kernel
theorem dX12_map_6 : decode cX12_map 6 = .ok (.iconst (-1), 1) := by decide +kernel
theorem dX12_map_7 : decode cX12_map 7 = .ok (.putfield 141, 3) := by decide +kernel
theorem dX12_map_10 : decode cX12_map 10 = .ok (.aload_n 0, 1) := by decide +kernel
theorem dX12_map_11 : decode cX12_map 11 = .ok (.invokevirtual 338, 3) := by decide +kernel
theorem dX12_map_14 : decode cX12_map 14 = .ok (.istore_n 1, 1) := by decide +kernel
theorem dX12_map_15 : decode cX12_map 15 = .ok (.aload_n 0, 1) := by decide +kernel
theorem dX12_map_16 : decode cX12_map 16 = .ok (.iconst 0, 1) := by decide +kernel
theorem dX12_map_17 : decode cX12_map 17 = .ok (.putfield 223, 3) := by decide +kernel
theorem dX12_map_20 : decode cX12_map 20 = .ok (.iload_n 1, 1) := by decide +kernel
theorem dX12_map_21 : decode cX12_map 21 = .ok (.ifCond .ne 5, 3) := by decide +kernel
theorem dX12_map_24 : decode cX12_map 24 = .ok (.iconst (-1), 1) := by decide +kernel
theorem dX12_map_25 : decode cX12_map 25 = .ok (.ireturn, 1) := by decide +kernel
theorem dX12_map_26 : decode cX12_map 26 = .ok (.aload_n 0, 1) := by decide +kernel
theorem dX12_map_27 : decode cX12_map 27 = .ok (.aload_n 0, 1) := by decide +kernel
theorem dX12_map_28 : decode cX12_map 28 = .ok (.getfield 291, 3) := by decide +kernel
theorem dX12_map_31 : decode cX12_map 31 = .ok (.putfield 341, 3) := by decide +kernel
theorem dX12_map_34 : decode cX12_map 34 = .ok (.iconst 0, 1) := by decide +kernel
theorem dX12_map_35 : decode cX12_map 35 = .ok (.istore_n 2, 1) := by decide +kernel
theorem dX12_map_36 : decode cX12_map 36 = .ok (.iload_n 2, 1) := by decide +kernel
theorem dX12_map_37 : decode cX12_map 37 = .ok (.aload_n 0, 1) := by decide +kernel
theorem dX12_map_38 : decode cX12_map 38 = .ok (.getfield 291, 3) := by decide +kernel
theorem dX12_map_41 : decode cX12_map 41 = .ok (.if_icmp .ge 222, 3) := by decide +kernel
theorem dX12_map_44 : decode cX12_map 44 = .ok (.aload_n 0, 1) := by decide +kernel
theorem dX12_map_45 : decode cX12_map 45 = .ok (.getfield 13, 3) := by decide +kernel
theorem dX12_map_48 : decode cX12_map 48 = .ok (.iload_n 2, 1) := by decide +kernel
theorem dX12_map_49 : decode cX12_map 49 = .ok (.aload_n 0, 1) := by decide +kernel
theorem dX12_map_50 : decode cX12_map 50 = .ok (.getfield 13, 3) := by decide +kernel
theorem dX12_map_53 : decode cX12_map 53 = .ok (.bipush 13, 2) := by decide +kernel
theorem dX12_map_55 : decode cX12_map 55 = .ok (.iload_n 2, 1) := by decide +kernel
theorem dX12_map_56 : decode cX12_map 56 = .ok (.iadd, 1) := by decide +kernel
theorem dX12_map_57 : decode cX12_map 57 = .ok (.laload, 1) := by decide +kernel
theorem dX12_map_58 : decode cX12_map 58 = .ok (.lastore, 1) := by decide +kernel
theorem dX12_map_59 : decode cX12_map 59 = .ok (.aload_n 0, 1) := by decide +kernel
theorem dX12_map_60 : decode cX12_map 60 = .ok (.getfield 17, 3) := by decide +kernel
theorem dX12_map_63 : decode cX12_map 63 = .ok (.iload_n 2, 1) := by decide +kernel
theorem dX12_map_64 : decode cX12_map 64 = .ok (.aload_n 0, 1) := by decide +kernel
theorem dX12_map_65 : decode cX12_map 65 = .ok (.getfield 17, 3) := by decide +kernel
theorem dX12_map_68 : decode cX12_map 68 = .ok (.bipush 13, 2) := by decide +kernel
theorem dX12_map_70 : decode cX12_map 70 = .ok (.iload_n 2, 1) := by decide +kernel
theorem dX12_map_71 : decode cX12_map 71 = .ok (.iadd, 1) := by decide +kernel
theorem dX12_map_72 : decode cX12_map 72 = .ok (.iaload, 1) := by decide +kernel
theorem dX12_map_73 : decode cX12_map 73 = .ok (.iastore, 1) := by decide +kernel
theorem dX12_map_74 : decode cX12_map 74 = .ok (.aload_n 0, 1) := by decide +kernel
theorem dX12_map_75 : decode cX12_map 75 = .ok (.getfield 20, 3) := by decide +kernel
theorem dX12_map_78 : decode cX12_map 78 = .ok (.iload_n 2, 1) := by decide +kernel
theorem dX12_map_79 : decode cX12_map 79 = .ok (.aload_n 0, 1) := by decide +kernel
theorem dX12_map_80 : decode cX12_map 80 = .ok (.getfield 20, 3) := by decide +kernel
theorem dX12_map_83 : decode cX12_map 83 = .ok (.bipush 13, 2) := by decide +kernel
theorem dX12_map_85 : decode cX12_map 85 = .ok (.iload_n 2, 1) := by decide +kernel
theorem dX12_map_86 : decode cX12_map 86 = .ok (.iadd, 1) := by decide +kernel
theorem dX12_map_87 : decode cX12_map 87 = .ok (.iaload, 1) := by decide +kernel
theorem dX12_map_88 : decode cX12_map 88 = .ok (.iastore, 1) := by decide +kernel
theorem dX12_map_89 : decode cX12_map 89 = .ok (.aload_n 0, 1) := by decide +kernel
theorem dX12_map_90 : decode cX12_map 90 = .ok (.getfield 23, 3) := by decide +kernel
theorem dX12_map_93 : decode cX12_map 93 = .ok (.iload_n 2, 1) := by decide +kernel
theorem dX12_map_94 : decode cX12_map 94 = .ok (.aload_n 0, 1) := by decide +kernel
theorem dX12_map_95 : decode cX12_map 95 = .ok (.getfield 23, 3) := by decide +kernel
theorem dX12_map_98 : decode cX12_map 98 = .ok (.bipush 13, 2) := by decide +kernel
theorem dX12_map_100 : decode cX12_map 100 = .ok (.iload_n 2, 1) := by decide +kernel
theorem dX12_map_101 : decode cX12_map 101 = .ok (.iadd, 1) := by decide +kernel
theorem dX12_map_102 : decode cX12_map 102 = .ok (.iaload, 1) := by decide +kernel
theorem dX12_map_103 : decode cX12_map 103 = .ok (.iastore, 1) := by decide +kernel
theorem dX12_map_104 : decode cX12_map 104 = .ok (.aload_n 0, 1) := by decide +kernel
theorem dX12_map_105 : decode cX12_map 105 = .ok (.getfield 26, 3) := by decide +kernel
theorem dX12_map_108 : decode cX12_map 108 = .ok (.iload_n 2, 1) := by decide +kernel
theorem dX12_map_109 : decode cX12_map 109 = .ok (.aload_n 0, 1) := by decide +kernel
theorem dX12_map_110 : decode cX12_map 110 = .ok (.getfield 26, 3) := by decide +kernel
theorem dX12_map_113 : decode cX12_map 113 = .ok (.bipush 13, 2) := by decide +kernel
theorem dX12_map_115 : decode cX12_map 115 = .ok (.iload_n 2, 1) := by decide +kernel
theorem dX12_map_116 : decode cX12_map 116 = .ok (.iadd, 1) := by decide +kernel
theorem dX12_map_117 : decode cX12_map 117 = .ok (.iaload, 1) := by decide +kernel
theorem dX12_map_118 : decode cX12_map 118 = .ok (.iastore, 1) := by decide +kernel
theorem dX12_map_119 : decode cX12_map 119 = .ok (.iconst 0, 1) := by decide +kernel
theorem dX12_map_120 : decode cX12_map 120 = .ok (.istore_n 3, 1) := by decide +kernel
theorem dX12_map_121 : decode cX12_map 121 = .ok (.iload_n 3, 1) := by decide +kernel
theorem dX12_map_122 : decode cX12_map 122 = .ok (.bipush 16, 2) := by decide +kernel
theorem dX12_map_124 : decode cX12_map 124 = .ok (.if_icmp .ge 51, 3) := by decide +kernel
theorem dX12_map_127 : decode cX12_map 127 = .ok (.aload_n 0, 1) := by decide +kernel
theorem dX12_map_128 : decode cX12_map 128 = .ok (.bipush 13, 2) := by decide +kernel
theorem dX12_map_130 : decode cX12_map 130 = .ok (.iload_n 2, 1) := by decide +kernel
theorem dX12_map_131 : decode cX12_map 131 = .ok (.iadd, 1) := by decide +kernel
theorem dX12_map_132 : decode cX12_map 132 = .ok (.iload_n 2, 1) := by decide +kernel
theorem dX12_map_133 : decode cX12_map 133 = .ok (.iload_n 3, 1) := by decide +kernel
theorem dX12_map_134 : decode cX12_map 134 = .ok (.invokevirtual 322, 3) := by decide +kernel
theorem dX12_map_137 : decode cX12_map 137 = .ok (.aload_n 0, 1) := by decide +kernel
theorem dX12_map_138 : decode cX12_map 138 = .ok (.getfield 32, 3) := by decide +kernel
theorem dX12_map_141 : decode cX12_map 141 = .ok (.bipush 16, 2) := by decide +kernel
theorem dX12_map_143 : decode cX12_map 143 = .ok (.iload_n 2, 1) := by decide +kernel
theorem dX12_map_144 : decode cX12_map 144 = .ok (.imul, 1) := by decide +kernel
theorem dX12_map_145 : decode cX12_map 145 = .ok (.iload_n 3, 1) := by decide +kernel
theorem dX12_map_146 : decode cX12_map 146 = .ok (.iadd, 1) := by decide +kernel
theorem dX12_map_147 : decode cX12_map 147 = .ok (.iaload, 1) := by decide +kernel
theorem dX12_map_148 : decode cX12_map 148 = .ok (.iconst 3, 1) := by decide +kernel
theorem dX12_map_149 : decode cX12_map 149 = .ok (.if_icmp .ne 20, 3) := by decide +kernel
theorem dX12_map_152 : decode cX12_map 152 = .ok (.aload_n 0, 1) := by decide +kernel
theorem dX12_map_153 : decode cX12_map 153 = .ok (.getfield 38, 3) := by decide +kernel
theorem dX12_map_156 : decode cX12_map 156 = .ok (.bipush 16, 2) := by decide +kernel
theorem dX12_map_158 : decode cX12_map 158 = .ok (.iload_n 2, 1) := by decide +kernel
theorem dX12_map_159 : decode cX12_map 159 = .ok (.imul, 1) := by decide +kernel
theorem dX12_map_160 : decode cX12_map 160 = .ok (.iload_n 3, 1) := by decide +kernel
theorem dX12_map_161 : decode cX12_map 161 = .ok (.iadd, 1) := by decide +kernel
theorem dX12_map_162 : decode cX12_map 162 = .ok (.dup2, 1) := by decide +kernel
theorem dX12_map_163 : decode cX12_map 163 = .ok (.iaload, 1) := by decide +kernel
theorem dX12_map_164 : decode cX12_map 164 = .ok (.sipush 1600, 3) := by decide +kernel
theorem dX12_map_167 : decode cX12_map 167 = .ok (.isub, 1) := by decide +kernel
theorem dX12_map_168 : decode cX12_map 168 = .ok (.iastore, 1) := by decide +kernel
theorem dX12_map_169 : decode cX12_map 169 = .ok (.iinc 3 1, 3) := by decide +kernel
theorem dX12_map_172 : decode cX12_map 172 = .ok (.goto (-51), 3) := by decide +kernel
theorem dX12_map_175 : decode cX12_map 175 = .ok (.iconst 0, 1) := by decide +kernel
theorem dX12_map_176 : decode cX12_map 176 = .ok (.istore_n 3, 1) := by decide +kernel
theorem dX12_map_177 : decode cX12_map 177 = .ok (.iload_n 3, 1) := by decide +kernel
theorem dX12_map_178 : decode cX12_map 178 = .ok (.iconst 4, 1) := by decide +kernel
theorem dX12_map_179 : decode cX12_map 179 = .ok (.if_icmp .ge 78, 3) := by decide +kernel
theorem dX12_map_182 : decode cX12_map 182 = .ok (.aload_n 0, 1) := by decide +kernel
theorem dX12_map_183 : decode cX12_map 183 = .ok (.getfield 65, 3) := by decide +kernel
theorem dX12_map_186 : decode cX12_map 186 = .ok (.iconst 4, 1) := by decide +kernel
theorem dX12_map_187 : decode cX12_map 187 = .ok (.iload_n 2, 1) := by decide +kernel
theorem dX12_map_188 : decode cX12_map 188 = .ok (.imul, 1) := by decide +kernel
theorem dX12_map_189 : decode cX12_map 189 = .ok (.iload_n 3, 1) := by decide +kernel
theorem dX12_map_190 : decode cX12_map 190 = .ok (.iadd, 1) := by decide +kernel
theorem dX12_map_191 : decode cX12_map 191 = .ok (.aload_n 0, 1) := by decide +kernel
theorem dX12_map_192 : decode cX12_map 192 = .ok (.getfield 65, 3) := by decide +kernel
theorem dX12_map_195 : decode cX12_map 195 = .ok (.bipush 52, 2) := by decide +kernel
theorem dX12_map_197 : decode cX12_map 197 = .ok (.iconst 4, 1) := by decide +kernel
theorem dX12_map_198 : decode cX12_map 198 = .ok (.iload_n 2, 1) := by decide +kernel
theorem dX12_map_199 : decode cX12_map 199 = .ok (.imul, 1) := by decide +kernel
theorem dX12_map_200 : decode cX12_map 200 = .ok (.iadd, 1) := by decide +kernel
theorem dX12_map_201 : decode cX12_map 201 = .ok (.iload_n 3, 1) := by decide +kernel
theorem dX12_map_202 : decode cX12_map 202 = .ok (.iadd, 1) := by decide +kernel
theorem dX12_map_203 : decode cX12_map 203 = .ok (.iaload, 1) := by decide +kernel
theorem dX12_map_204 : decode cX12_map 204 = .ok (.iastore, 1) := by decide +kernel
theorem dX12_map_205 : decode cX12_map 205 = .ok (.aload_n 0, 1) := by decide +kernel
theorem dX12_map_206 : decode cX12_map 206 = .ok (.getfield 68, 3) := by decide +kernel
theorem dX12_map_209 : decode cX12_map 209 = .ok (.iconst 4, 1) := by decide +kernel
theorem dX12_map_210 : decode cX12_map 210 = .ok (.iload_n 2, 1) := by decide +kernel
theorem dX12_map_211 : decode cX12_map 211 = .ok (.imul, 1) := by decide +kernel
theorem dX12_map_212 : decode cX12_map 212 = .ok (.iload_n 3, 1) := by decide +kernel
theorem dX12_map_213 : decode cX12_map 213 = .ok (.iadd, 1) := by decide +kernel
theorem dX12_map_214 : decode cX12_map 214 = .ok (.aload_n 0, 1) := by decide +kernel
theorem dX12_map_215 : decode cX12_map 215 = .ok (.getfield 68, 3) := by decide +kernel
theorem dX12_map_218 : decode cX12_map 218 = .ok (.bipush 52, 2) := by decide +kernel
theorem dX12_map_220 : decode cX12_map 220 = .ok (.iconst 4, 1) := by decide +kernel
theorem dX12_map_221 : decode cX12_map 221 = .ok (.iload_n 2, 1) := by decide +kernel
theorem dX12_map_222 : decode cX12_map 222 = .ok (.imul, 1) := by decide +kernel
theorem dX12_map_223 : decode cX12_map 223 = .ok (.iadd, 1) := by decide +kernel
theorem dX12_map_224 : decode cX12_map 224 = .ok (.iload_n 3, 1) := by decide +kernel
theorem dX12_map_225 : decode cX12_map 225 = .ok (.iadd, 1) := by decide +kernel
theorem dX12_map_226 : decode cX12_map 226 = .ok (.iaload, 1) := by decide +kernel
theorem dX12_map_227 : decode cX12_map 227 = .ok (.iastore, 1) := by decide +kernel
theorem dX12_map_228 : decode cX12_map 228 = .ok (.aload_n 0, 1) := by decide +kernel
theorem dX12_map_229 : decode cX12_map 229 = .ok (.getfield 71, 3) := by decide +kernel
theorem dX12_map_232 : decode cX12_map 232 = .ok (.iconst 4, 1) := by decide +kernel
theorem dX12_map_233 : decode cX12_map 233 = .ok (.iload_n 2, 1) := by decide +kernel
theorem dX12_map_234 : decode cX12_map 234 = .ok (.imul, 1) := by decide +kernel
theorem dX12_map_235 : decode cX12_map 235 = .ok (.iload_n 3, 1) := by decide +kernel
theorem dX12_map_236 : decode cX12_map 236 = .ok (.iadd, 1) := by decide +kernel
theorem dX12_map_237 : decode cX12_map 237 = .ok (.aload_n 0, 1) := by decide +kernel
theorem dX12_map_238 : decode cX12_map 238 = .ok (.getfield 71, 3) := by decide +kernel
theorem dX12_map_241 : decode cX12_map 241 = .ok (.bipush 52, 2) := by decide +kernel
theorem dX12_map_243 : decode cX12_map 243 = .ok (.iconst 4, 1) := by decide +kernel
theorem dX12_map_244 : decode cX12_map 244 = .ok (.iload_n 2, 1) := by decide +kernel
theorem dX12_map_245 : decode cX12_map 245 = .ok (.imul, 1) := by decide +kernel
theorem dX12_map_246 : decode cX12_map 246 = .ok (.iadd, 1) := by decide +kernel
theorem dX12_map_247 : decode cX12_map 247 = .ok (.iload_n 3, 1) := by decide +kernel
theorem dX12_map_248 : decode cX12_map 248 = .ok (.iadd, 1) := by decide +kernel
theorem dX12_map_249 : decode cX12_map 249 = .ok (.iaload, 1) := by decide +kernel
theorem dX12_map_250 : decode cX12_map 250 = .ok (.iastore, 1) := by decide +kernel
theorem dX12_map_251 : decode cX12_map 251 = .ok (.iinc 3 1, 3) := by decide +kernel
theorem dX12_map_254 : decode cX12_map 254 = .ok (.goto (-77), 3) := by decide +kernel
theorem dX12_map_257 : decode cX12_map 257 = .ok (.iinc 2 1, 3) := by decide +kernel
theorem dX12_map_260 : decode cX12_map 260 = .ok (.goto (-224), 3) := by decide +kernel
theorem dX12_map_263 : decode cX12_map 263 = .ok (.sipush 1600, 3) := by decide +kernel
theorem dX12_map_266 : decode cX12_map 266 = .ok (.istore_n 2, 1) := by decide +kernel
theorem dX12_map_267 : decode cX12_map 267 = .ok (.iload_n 2, 1) := by decide +kernel
theorem dX12_map_268 : decode cX12_map 268 = .ok (.aload_n 0, 1) := by decide +kernel
theorem dX12_map_269 : decode cX12_map 269 = .ok (.getfield 294, 3) := by decide +kernel
theorem dX12_map_272 : decode cX12_map 272 = .ok (.if_icmp .ge 25, 3) := by decide +kernel
theorem dX12_map_275 : decode cX12_map 275 = .ok (.aload_n 0, 1) := by decide +kernel
theorem dX12_map_276 : decode cX12_map 276 = .ok (.getfield 74, 3) := by decide +kernel
theorem dX12_map_279 : decode cX12_map 279 = .ok (.iload_n 2, 1) := by decide +kernel
theorem dX12_map_280 : decode cX12_map 280 = .ok (.sipush 1600, 3) := by decide +kernel
theorem dX12_map_283 : decode cX12_map 283 = .ok (.isub, 1) := by decide +kernel
theorem dX12_map_284 : decode cX12_map 284 = .ok (.aload_n 0, 1) := by decide +kernel
theorem dX12_map_285 : decode cX12_map 285 = .ok (.getfield 74, 3) := by decide +kernel
theorem dX12_map_288 : decode cX12_map 288 = .ok (.iload_n 2, 1) := by decide +kernel
theorem dX12_map_289 : decode cX12_map 289 = .ok (.laload, 1) := by decide +kernel
theorem dX12_map_290 : decode cX12_map 290 = .ok (.lastore, 1) := by decide +kernel
theorem dX12_map_291 : decode cX12_map 291 = .ok (.iinc 2 1, 3) := by decide +kernel
theorem dX12_map_294 : decode cX12_map 294 = .ok (.goto (-27), 3) := by decide +kernel
theorem dX12_map_297 : decode cX12_map 297 = .ok (.aload_n 0, 1) := by decide +kernel
theorem dX12_map_298 : decode cX12_map 298 = .ok (.iconst 0, 1) := by decide +kernel
theorem dX12_map_299 : decode cX12_map 299 = .ok (.putfield 344, 3) := by decide +kernel
theorem dX12_map_302 : decode cX12_map 302 = .ok (.iconst 0, 1) := by decide +kernel
theorem dX12_map_303 : decode cX12_map 303 = .ok (.istore_n 2, 1) := by decide +kernel
theorem dX12_map_304 : decode cX12_map 304 = .ok (.iload_n 2, 1) := by decide +kernel
theorem dX12_map_305 : decode cX12_map 305 = .ok (.bipush 12, 2) := by decide +kernel
theorem dX12_map_307 : decode cX12_map 307 = .ok (.if_icmp .ge 16, 3) := by decide +kernel
theorem dX12_map_310 : decode cX12_map 310 = .ok (.aload_n 0, 1) := by decide +kernel
theorem dX12_map_311 : decode cX12_map 311 = .ok (.getfield 92, 3) := by decide +kernel
theorem dX12_map_314 : decode cX12_map 314 = .ok (.iload_n 2, 1) := by decide +kernel
theorem dX12_map_315 : decode cX12_map 315 = .ok (.iconst 0, 1) := by decide +kernel
theorem dX12_map_316 : decode cX12_map 316 = .ok (.iastore, 1) := by decide +kernel
theorem dX12_map_317 : decode cX12_map 317 = .ok (.iinc 2 1, 3) := by decide +kernel
theorem dX12_map_320 : decode cX12_map 320 = .ok (.goto (-16), 3) := by decide +kernel
theorem dX12_map_323 : decode cX12_map 323 = .ok (.iconst 0, 1) := by decide +kernel
theorem dX12_map_324 : decode cX12_map 324 = .ok (.istore_n 2, 1) := by decide +kernel
theorem dX12_map_325 : decode cX12_map 325 = .ok (.iload_n 2, 1) := by decide +kernel
theorem dX12_map_326 : decode cX12_map 326 = .ok (.iconst 4, 1) := by decide +kernel
theorem dX12_map_327 : decode cX12_map 327 = .ok (.if_icmp .ge 23, 3) := by decide +kernel
theorem dX12_map_330 : decode cX12_map 330 = .ok (.aload_n 0, 1) := by decide +kernel
theorem dX12_map_331 : decode cX12_map 331 = .ok (.getfield 110, 3) := by decide +kernel
theorem dX12_map_334 : decode cX12_map 334 = .ok (.iload_n 2, 1) := by decide +kernel
theorem dX12_map_335 : decode cX12_map 335 = .ok (.iconst 0, 1) := by decide +kernel
theorem dX12_map_336 : decode cX12_map 336 = .ok (.bastore, 1) := by decide +kernel
theorem dX12_map_337 : decode cX12_map 337 = .ok (.aload_n 0, 1) := by decide +kernel
theorem dX12_map_338 : decode cX12_map 338 = .ok (.getfield 114, 3) := by decide +kernel
theorem dX12_map_341 : decode cX12_map 341 = .ok (.iload_n 2, 1) := by decide +kernel
theorem dX12_map_342 : decode cX12_map 342 = .ok (.iconst 0, 1) := by decide +kernel
theorem dX12_map_343 : decode cX12_map 343 = .ok (.iastore, 1) := by decide +kernel
theorem dX12_map_344 : decode cX12_map 344 = .ok (.iinc 2 1, 3) := by decide +kernel
theorem dX12_map_347 : decode cX12_map 347 = .ok (.goto (-22), 3) := by decide +kernel
theorem dX12_map_350 : decode cX12_map 350 = .ok (.aload_n 0, 1) := by decide +kernel
theorem dX12_map_351 : decode cX12_map 351 = .ok (.iconst 0, 1) := by decide +kernel
theorem dX12_map_352 : decode cX12_map 352 = .ok (.putfield 347, 3) := by decide +kernel
theorem dX12_map_355 : decode cX12_map 355 = .ok (.aload_n 0, 1) := by decide +kernel
theorem dX12_map_356 : decode cX12_map 356 = .ok (.getfield 341, 3) := by decide +kernel
theorem dX12_map_359 : decode cX12_map 359 = .ok (.ireturn, 1) := by decide +kernel
theorem dX12_fault_0 : decode cX12_fault 0 = .ok (.iload_n 1, 1) := by decide +kernel
theorem dX12_fault_1 : decode cX12_fault 1 = .ok (.ifCond .ne 10, 3) := by decide +kernel
theorem dX12_fault_4 : decode cX12_fault 4 = .ok (.aload_n 0, 1) := by decide +kernel
theorem dX12_fault_5 : decode cX12_fault 5 = .ok (.getfield 258, 3) := by decide +kernel
theorem dX12_fault_8 : decode cX12_fault 8 = .ok (.goto 16, 3) := by decide +kernel
theorem dX12_fault_11 : decode cX12_fault 11 = .ok (.iload_n 1, 1) := by decide +kernel
theorem dX12_fault_12 : decode cX12_fault 12 = .ok (.iconst 1, 1) := by decide +kernel
theorem dX12_fault_13 : decode cX12_fault 13 = .ok (.if_icmp .ne 10, 3) := by decide +kernel
theorem dX12_fault_16 : decode cX12_fault 16 = .ok (.aload_n 0, 1) := by decide +kernel
theorem dX12_fault_17 : decode cX12_fault 17 = .ok (.getfield 141, 3) := by decide +kernel
theorem dX12_fault_20 : decode cX12_fault 20 = .ok (.goto 4, 3) := by decide +kernel
theorem dX12_fault_23 : decode cX12_fault 23 = .ok (.iconst (-1), 1) := by decide +kernel
theorem dX12_fault_24 : decode cX12_fault 24 = .ok (.ireturn, 1) := by decide +kernel
theorem dX12_isClass_0 : decode cX12_isClass 0 = .ok (.iload_n 1, 1) := by decide +kernel
theorem dX12_isClass_1 : decode cX12_isClass 1 = .ok (.ifCond .lt 15, 3) := by decide +kernel
theorem dX12_isClass_4 : decode cX12_isClass 4 = .ok (.iload_n 1, 1) := by decide +kernel
theorem dX12_isClass_5 : decode cX12_isClass 5 = .ok (.aload_n 0, 1) := by decide +kernel
theorem dX12_isClass_6 : decode cX12_isClass 6 = .ok (.getfield 341, 3) := by decide +kernel
theorem dX12_isClass_9 : decode cX12_isClass 9 = .ok (.if_icmp .ge 7, 3) := by decide +kernel
theorem dX12_isClass_12 : decode cX12_isClass 12 = .ok (.iconst 1, 1) := by decide +kernel
theorem dX12_isClass_13 : decode cX12_isClass 13 = .ok (.goto 4, 3) := by decide +kernel
theorem dX12_isClass_16 : decode cX12_isClass 16 = .ok (.iconst 0, 1) := by decide +kernel
theorem dX12_isClass_17 : decode cX12_isClass 17 = .ok (.ireturn, 1) := by decide +kernel
theorem dX12_rootOf_0 : decode cX12_rootOf 0 = .ok (.iload_n 1, 1) := by decide +kernel
theorem dX12_rootOf_1 : decode cX12_rootOf 1 = .ok (.istore_n 2, 1) := by decide +kernel
theorem dX12_rootOf_2 : decode cX12_rootOf 2 = .ok (.aload_n 0, 1) := by decide +kernel
theorem dX12_rootOf_3 : decode cX12_rootOf 3 = .ok (.getfield 17, 3) := by decide +kernel
theorem dX12_rootOf_6 : decode cX12_rootOf 6 = .ok (.iload_n 2, 1) := by decide +kernel
theorem dX12_rootOf_7 : decode cX12_rootOf 7 = .ok (.iaload, 1) := by decide +kernel
theorem dX12_rootOf_8 : decode cX12_rootOf 8 = .ok (.ifCond .lt 13, 3) := by decide +kernel
theorem dX12_rootOf_11 : decode cX12_rootOf 11 = .ok (.aload_n 0, 1) := by decide +kernel
theorem dX12_rootOf_12 : decode cX12_rootOf 12 = .ok (.getfield 17, 3) := by decide +kernel
theorem dX12_rootOf_15 : decode cX12_rootOf 15 = .ok (.iload_n 2, 1) := by decide +kernel
theorem dX12_rootOf_16 : decode cX12_rootOf 16 = .ok (.iaload, 1) := by decide +kernel
theorem dX12_rootOf_17 : decode cX12_rootOf 17 = .ok (.istore_n 2, 1) := by decide +kernel
theorem dX12_rootOf_18 : decode cX12_rootOf 18 = .ok (.goto (-16), 3) := by decide +kernel
theorem dX12_rootOf_21 : decode cX12_rootOf 21 = .ok (.iload_n 2, 1) := by decide +kernel
theorem dX12_rootOf_22 : decode cX12_rootOf 22 = .ok (.ireturn, 1) := by decide +kernel
theorem dX12_look_0 : decode cX12_look 0 = .ok (.aload_n 0, 1) := by decide +kernel
theorem dX12_look_1 : decode cX12_look 1 = .ok (.iload_n 1, 1) := by decide +kernel
theorem dX12_look_2 : decode cX12_look 2 = .ok (.invokevirtual 350, 3) := by decide +kernel
theorem dX12_look_5 : decode cX12_look 5 = .ok (.ifCond .ne 5, 3) := by decide +kernel
theorem dX12_look_8 : decode cX12_look 8 = .ok (.iconst (-1), 1) := by decide +kernel
theorem dX12_look_9 : decode cX12_look 9 = .ok (.ireturn, 1) := by decide +kernel
theorem dX12_look_10 : decode cX12_look 10 = .ok (.iload_n 2, 1) := by decide +kernel
theorem dX12_look_11 : decode cX12_look 11 = .ok (.tableswitch 56 0 3 #[29, 36, 42, 49], 29) := by decide +kernel
theorem dX12_look_40 : decode cX12_look 40 = .ok (.aload_n 0, 1) := by decide +kernel
theorem dX12_look_41 : decode cX12_look 41 = .ok (.getfield 17, 3) := by decide +kernel
theorem dX12_look_44 : decode cX12_look 44 = .ok (.iload_n 1, 1) := by decide +kernel
theorem dX12_look_45 : decode cX12_look 45 = .ok (.iaload, 1) := by decide +kernel
theorem dX12_look_46 : decode cX12_look 46 = .ok (.ireturn, 1) := by decide +kernel
theorem dX12_look_47 : decode cX12_look 47 = .ok (.aload_n 0, 1) := by decide +kernel
theorem dX12_look_48 : decode cX12_look 48 = .ok (.iload_n 1, 1) := by decide +kernel
theorem dX12_look_49 : decode cX12_look 49 = .ok (.invokevirtual 353, 3) := by decide +kernel
theorem dX12_look_52 : decode cX12_look 52 = .ok (.ireturn, 1) := by decide +kernel
theorem dX12_look_53 : decode cX12_look 53 = .ok (.aload_n 0, 1) := by decide +kernel
theorem dX12_look_54 : decode cX12_look 54 = .ok (.getfield 20, 3) := by decide +kernel
theorem dX12_look_57 : decode cX12_look 57 = .ok (.iload_n 1, 1) := by decide +kernel
theorem dX12_look_58 : decode cX12_look 58 = .ok (.iaload, 1) := by decide +kernel
theorem dX12_look_59 : decode cX12_look 59 = .ok (.ireturn, 1) := by decide +kernel
theorem dX12_look_60 : decode cX12_look 60 = .ok (.aload_n 0, 1) := by decide +kernel
theorem dX12_look_61 : decode cX12_look 61 = .ok (.getfield 23, 3) := by decide +kernel
theorem dX12_look_64 : decode cX12_look 64 = .ok (.iload_n 1, 1) := by decide +kernel
theorem dX12_look_65 : decode cX12_look 65 = .ok (.iaload, 1) := by decide +kernel
theorem dX12_look_66 : decode cX12_look 66 = .ok (.ireturn, 1) := by decide +kernel
theorem dX12_look_67 : decode cX12_look 67 = .ok (.iconst (-1), 1) := by decide +kernel
theorem dX12_look_68 : decode cX12_look 68 = .ok (.ireturn, 1) := by decide +kernel
theorem dX12_member_0 : decode cX12_member 0 = .ok (.aload_n 0, 1) := by decide +kernel
theorem dX12_member_1 : decode cX12_member 1 = .ok (.iload_n 1, 1) := by decide +kernel
theorem dX12_member_2 : decode cX12_member 2 = .ok (.invokevirtual 350, 3) := by decide +kernel
theorem dX12_member_5 : decode cX12_member 5 = .ok (.ifCond .eq 17, 3) := by decide +kernel
theorem dX12_member_8 : decode cX12_member 8 = .ok (.iload_n 2, 1) := by decide +kernel
theorem dX12_member_9 : decode cX12_member 9 = .ok (.ifCond .lt 13, 3) := by decide +kernel
theorem dX12_member_12 : decode cX12_member 12 = .ok (.iload_n 2, 1) := by decide +kernel
theorem dX12_member_13 : decode cX12_member 13 = .ok (.aload_n 0, 1) := by decide +kernel
theorem dX12_member_14 : decode cX12_member 14 = .ok (.getfield 23, 3) := by decide +kernel
theorem dX12_member_17 : decode cX12_member 17 = .ok (.iload_n 1, 1) := by decide +kernel
theorem dX12_member_18 : decode cX12_member 18 = .ok (.iaload, 1) := by decide +kernel
theorem dX12_member_19 : decode cX12_member 19 = .ok (.if_icmp .lt 5, 3) := by decide +kernel
theorem dX12_member_22 : decode cX12_member 22 = .ok (.iconst (-1), 1) := by decide +kernel
theorem dX12_member_23 : decode cX12_member 23 = .ok (.ireturn, 1) := by decide +kernel
theorem dX12_member_24 : decode cX12_member 24 = .ok (.bipush 16, 2) := by decide +kernel
theorem dX12_member_26 : decode cX12_member 26 = .ok (.iload_n 1, 1) := by decide +kernel
theorem dX12_member_27 : decode cX12_member 27 = .ok (.imul, 1) := by decide +kernel
theorem dX12_member_28 : decode cX12_member 28 = .ok (.iload_n 2, 1) := by decide +kernel
theorem dX12_member_29 : decode cX12_member 29 = .ok (.iadd, 1) := by decide +kernel
theorem dX12_member_30 : decode cX12_member 30 = .ok (.istore 4, 2) := by decide +kernel
theorem dX12_member_32 : decode cX12_member 32 = .ok (.iload_n 3, 1) := by decide +kernel
theorem dX12_member_33 : decode cX12_member 33 = .ok (.tableswitch 114 0 3 #[31, 39, 83, 91], 31) := by decide +kernel
theorem dX12_member_64 : decode cX12_member 64 = .ok (.aload_n 0, 1) := by decide +kernel
theorem dX12_member_65 : decode cX12_member 65 = .ok (.getfield 32, 3) := by decide +kernel
theorem dX12_member_68 : decode cX12_member 68 = .ok (.iload 4, 2) := by decide +kernel
theorem dX12_member_70 : decode cX12_member 70 = .ok (.iaload, 1) := by decide +kernel
theorem dX12_member_71 : decode cX12_member 71 = .ok (.ireturn, 1) := by decide +kernel
theorem dX12_member_72 : decode cX12_member 72 = .ok (.aload_n 0, 1) := by decide +kernel
theorem dX12_member_73 : decode cX12_member 73 = .ok (.getfield 32, 3) := by decide +kernel
theorem dX12_member_76 : decode cX12_member 76 = .ok (.iload 4, 2) := by decide +kernel
theorem dX12_member_78 : decode cX12_member 78 = .ok (.iaload, 1) := by decide +kernel
theorem dX12_member_79 : decode cX12_member 79 = .ok (.iconst 4, 1) := by decide +kernel
theorem dX12_member_80 : decode cX12_member 80 = .ok (.if_icmp .lt 13, 3) := by decide +kernel
theorem dX12_member_83 : decode cX12_member 83 = .ok (.aload_n 0, 1) := by decide +kernel
theorem dX12_member_84 : decode cX12_member 84 = .ok (.getfield 35, 3) := by decide +kernel
theorem dX12_member_87 : decode cX12_member 87 = .ok (.iload 4, 2) := by decide +kernel
theorem dX12_member_89 : decode cX12_member 89 = .ok (.iaload, 1) := by decide +kernel
theorem dX12_member_90 : decode cX12_member 90 = .ok (.goto 25, 3) := by decide +kernel
theorem dX12_member_93 : decode cX12_member 93 = .ok (.aload_n 0, 1) := by decide +kernel
theorem dX12_member_94 : decode cX12_member 94 = .ok (.getfield 32, 3) := by decide +kernel
theorem dX12_member_97 : decode cX12_member 97 = .ok (.iload 4, 2) := by decide +kernel
theorem dX12_member_99 : decode cX12_member 99 = .ok (.iaload, 1) := by decide +kernel
theorem dX12_member_100 : decode cX12_member 100 = .ok (.iconst 3, 1) := by decide +kernel
theorem dX12_member_101 : decode cX12_member 101 = .ok (.if_icmp .ne 13, 3) := by decide +kernel
theorem dX12_member_104 : decode cX12_member 104 = .ok (.aload_n 0, 1) := by decide +kernel
theorem dX12_member_105 : decode cX12_member 105 = .ok (.getfield 41, 3) := by decide +kernel
theorem dX12_member_108 : decode cX12_member 108 = .ok (.iload 4, 2) := by decide +kernel
theorem dX12_member_110 : decode cX12_member 110 = .ok (.iaload, 1) := by decide +kernel
theorem dX12_member_111 : decode cX12_member 111 = .ok (.goto 4, 3) := by decide +kernel
theorem dX12_member_114 : decode cX12_member 114 = .ok (.iconst 0, 1) := by decide +kernel
theorem dX12_member_115 : decode cX12_member 115 = .ok (.ireturn, 1) := by decide +kernel
theorem dX12_member_116 : decode cX12_member 116 = .ok (.aload_n 0, 1) := by decide +kernel
theorem dX12_member_117 : decode cX12_member 117 = .ok (.getfield 44, 3) := by decide +kernel
theorem dX12_member_120 : decode cX12_member 120 = .ok (.iload 4, 2) := by decide +kernel
theorem dX12_member_122 : decode cX12_member 122 = .ok (.iaload, 1) := by decide +kernel
theorem dX12_member_123 : decode cX12_member 123 = .ok (.ireturn, 1) := by decide +kernel
theorem dX12_member_124 : decode cX12_member 124 = .ok (.aload_n 0, 1) := by decide +kernel
theorem dX12_member_125 : decode cX12_member 125 = .ok (.getfield 32, 3) := by decide +kernel
theorem dX12_member_128 : decode cX12_member 128 = .ok (.iload 4, 2) := by decide +kernel
theorem dX12_member_130 : decode cX12_member 130 = .ok (.iaload, 1) := by decide +kernel
theorem dX12_member_131 : decode cX12_member 131 = .ok (.iconst 5, 1) := by decide +kernel
theorem dX12_member_132 : decode cX12_member 132 = .ok (.if_icmp .ne 13, 3) := by decide +kernel
theorem dX12_member_135 : decode cX12_member 135 = .ok (.aload_n 0, 1) := by decide +kernel
theorem dX12_member_136 : decode cX12_member 136 = .ok (.getfield 47, 3) := by decide +kernel
theorem dX12_member_139 : decode cX12_member 139 = .ok (.iload 4, 2) := by decide +kernel
theorem dX12_member_141 : decode cX12_member 141 = .ok (.iaload, 1) := by decide +kernel
theorem dX12_member_142 : decode cX12_member 142 = .ok (.goto 4, 3) := by decide +kernel
theorem dX12_member_145 : decode cX12_member 145 = .ok (.iconst (-1), 1) := by decide +kernel
theorem dX12_member_146 : decode cX12_member 146 = .ok (.ireturn, 1) := by decide +kernel
theorem dX12_member_147 : decode cX12_member 147 = .ok (.iconst (-1), 1) := by decide +kernel
theorem dX12_member_148 : decode cX12_member 148 = .ok (.ireturn, 1) := by decide +kernel
theorem dX12_rowOf_0 : decode cX12_rowOf 0 = .ok (.iconst 0, 1) := by decide +kernel
theorem dX12_rowOf_1 : decode cX12_rowOf 1 = .ok (.istore_n 3, 1) := by decide +kernel
theorem dX12_rowOf_2 : decode cX12_rowOf 2 = .ok (.iload_n 3, 1) := by decide +kernel
theorem dX12_rowOf_3 : decode cX12_rowOf 3 = .ok (.aload_n 0, 1) := by decide +kernel
theorem dX12_rowOf_4 : decode cX12_rowOf 4 = .ok (.getfield 344, 3) := by decide +kernel
theorem dX12_rowOf_7 : decode cX12_rowOf 7 = .ok (.if_icmp .ge 31, 3) := by decide +kernel
theorem dX12_rowOf_10 : decode cX12_rowOf 10 = .ok (.aload_n 0, 1) := by decide +kernel
theorem dX12_rowOf_11 : decode cX12_rowOf 11 = .ok (.getfield 77, 3) := by decide +kernel
theorem dX12_rowOf_14 : decode cX12_rowOf 14 = .ok (.iload_n 3, 1) := by decide +kernel
theorem dX12_rowOf_15 : decode cX12_rowOf 15 = .ok (.iaload, 1) := by decide +kernel
theorem dX12_rowOf_16 : decode cX12_rowOf 16 = .ok (.iload_n 1, 1) := by decide +kernel
theorem dX12_rowOf_17 : decode cX12_rowOf 17 = .ok (.if_icmp .ne 15, 3) := by decide +kernel
theorem dX12_rowOf_20 : decode cX12_rowOf 20 = .ok (.aload_n 0, 1) := by decide +kernel
theorem dX12_rowOf_21 : decode cX12_rowOf 21 = .ok (.getfield 80, 3) := by decide +kernel
theorem dX12_rowOf_24 : decode cX12_rowOf 24 = .ok (.iload_n 3, 1) := by decide +kernel
theorem dX12_rowOf_25 : decode cX12_rowOf 25 = .ok (.iaload, 1) := by decide +kernel
theorem dX12_rowOf_26 : decode cX12_rowOf 26 = .ok (.iload_n 2, 1) := by decide +kernel
theorem dX12_rowOf_27 : decode cX12_rowOf 27 = .ok (.if_icmp .ne 5, 3) := by decide +kernel
theorem dX12_rowOf_30 : decode cX12_rowOf 30 = .ok (.iload_n 3, 1) := by decide +kernel
theorem dX12_rowOf_31 : decode cX12_rowOf 31 = .ok (.ireturn, 1) := by decide +kernel
theorem dX12_rowOf_32 : decode cX12_rowOf 32 = .ok (.iinc 3 1, 3) := by decide +kernel
theorem dX12_rowOf_35 : decode cX12_rowOf 35 = .ok (.goto (-33), 3) := by decide +kernel
theorem dX12_rowOf_38 : decode cX12_rowOf 38 = .ok (.iconst (-1), 1) := by decide +kernel
theorem dX12_rowOf_39 : decode cX12_rowOf 39 = .ok (.ireturn, 1) := by decide +kernel
theorem dX12_hasMember_0 : decode cX12_hasMember 0 = .ok (.aload_n 0, 1) := by decide +kernel
theorem dX12_hasMember_1 : decode cX12_hasMember 1 = .ok (.iconst 0, 1) := by decide +kernel
theorem dX12_hasMember_2 : decode cX12_hasMember 2 = .ok (.iload_n 1, 1) := by decide +kernel
theorem dX12_hasMember_3 : decode cX12_hasMember 3 = .ok (.iload_n 2, 1) := by decide +kernel
theorem dX12_hasMember_4 : decode cX12_hasMember 4 = .ok (.invokevirtual 315, 3) := by decide +kernel
theorem dX12_hasMember_7 : decode cX12_hasMember 7 = .ok (.ifCond .eq 32, 3) := by decide +kernel
theorem dX12_hasMember_10 : decode cX12_hasMember 10 = .ok (.iload_n 3, 1) := by decide +kernel
theorem dX12_hasMember_11 : decode cX12_hasMember 11 = .ok (.aload_n 0, 1) := by decide +kernel
theorem dX12_hasMember_12 : decode cX12_hasMember 12 = .ok (.getfield 23, 3) := by decide +kernel
theorem dX12_hasMember_15 : decode cX12_hasMember 15 = .ok (.iload_n 1, 1) := by decide +kernel
theorem dX12_hasMember_16 : decode cX12_hasMember 16 = .ok (.iaload, 1) := by decide +kernel
theorem dX12_hasMember_17 : decode cX12_hasMember 17 = .ok (.if_icmp .ge 22, 3) := by decide +kernel
theorem dX12_hasMember_20 : decode cX12_hasMember 20 = .ok (.aload_n 0, 1) := by decide +kernel
theorem dX12_hasMember_21 : decode cX12_hasMember 21 = .ok (.getfield 50, 3) := by decide +kernel
theorem dX12_hasMember_24 : decode cX12_hasMember 24 = .ok (.bipush 16, 2) := by decide +kernel
theorem dX12_hasMember_26 : decode cX12_hasMember 26 = .ok (.iload_n 1, 1) := by decide +kernel
theorem dX12_hasMember_27 : decode cX12_hasMember 27 = .ok (.imul, 1) := by decide +kernel
theorem dX12_hasMember_28 : decode cX12_hasMember 28 = .ok (.iload_n 3, 1) := by decide +kernel
theorem dX12_hasMember_29 : decode cX12_hasMember 29 = .ok (.iadd, 1) := by decide +kernel
theorem dX12_hasMember_30 : decode cX12_hasMember 30 = .ok (.iaload, 1) := by decide +kernel
theorem dX12_hasMember_31 : decode cX12_hasMember 31 = .ok (.iload_n 2, 1) := by decide +kernel
theorem dX12_hasMember_32 : decode cX12_hasMember 32 = .ok (.if_icmp .ne 7, 3) := by decide +kernel
theorem dX12_hasMember_35 : decode cX12_hasMember 35 = .ok (.iconst 1, 1) := by decide +kernel
theorem dX12_hasMember_36 : decode cX12_hasMember 36 = .ok (.goto 4, 3) := by decide +kernel
theorem dX12_hasMember_39 : decode cX12_hasMember 39 = .ok (.iconst 0, 1) := by decide +kernel
theorem dX12_hasMember_40 : decode cX12_hasMember 40 = .ok (.ireturn, 1) := by decide +kernel
theorem dX12_breaks_0 : decode cX12_breaks 0 = .ok (.aload_n 0, 1) := by decide +kernel
theorem dX12_breaks_1 : decode cX12_breaks 1 = .ok (.iload_n 1, 1) := by decide +kernel
theorem dX12_breaks_2 : decode cX12_breaks 2 = .ok (.putfield 356, 3) := by decide +kernel
theorem dX12_breaks_5 : decode cX12_breaks 5 = .ok (.aload_n 0, 1) := by decide +kernel
theorem dX12_breaks_6 : decode cX12_breaks 6 = .ok (.iload_n 2, 1) := by decide +kernel
theorem dX12_breaks_7 : decode cX12_breaks 7 = .ok (.putfield 359, 3) := by decide +kernel
theorem dX12_breaks_10 : decode cX12_breaks 10 = .ok (.iconst 1, 1) := by decide +kernel
theorem dX12_breaks_11 : decode cX12_breaks 11 = .ok (.ireturn, 1) := by decide +kernel
theorem dX12_broken_0 : decode cX12_broken 0 = .ok (.iconst 0, 1) := by decide +kernel
theorem dX12_broken_1 : decode cX12_broken 1 = .ok (.istore 6, 2) := by decide +kernel
theorem dX12_broken_3 : decode cX12_broken 3 = .ok (.iload 6, 2) := by decide +kernel
theorem dX12_broken_5 : decode cX12_broken 5 = .ok (.aload_n 0, 1) := by decide +kernel
theorem dX12_broken_6 : decode cX12_broken 6 = .ok (.getfield 23, 3) := by decide +kernel
theorem dX12_broken_9 : decode cX12_broken 9 = .ok (.iload_n 3, 1) := by decide +kernel
theorem dX12_broken_10 : decode cX12_broken 10 = .ok (.iaload, 1) := by decide +kernel
theorem dX12_broken_11 : decode cX12_broken 11 = .ok (.if_icmp .ge 326, 3) := by decide +kernel
theorem dX12_broken_14 : decode cX12_broken 14 = .ok (.bipush 16, 2) := by decide +kernel
theorem dX12_broken_16 : decode cX12_broken 16 = .ok (.iload_n 3, 1) := by decide +kernel
theorem dX12_broken_17 : decode cX12_broken 17 = .ok (.imul, 1) := by decide +kernel
theorem dX12_broken_18 : decode cX12_broken 18 = .ok (.iload 6, 2) := by decide +kernel
theorem dX12_broken_20 : decode cX12_broken 20 = .ok (.iadd, 1) := by decide +kernel
theorem dX12_broken_21 : decode cX12_broken 21 = .ok (.istore 7, 2) := by decide +kernel
theorem dX12_broken_23 : decode cX12_broken 23 = .ok (.aload 4, 2) := by decide +kernel
theorem dX12_broken_25 : decode cX12_broken 25 = .ok (.iload 5, 2) := by decide +kernel
theorem dX12_broken_27 : decode cX12_broken 27 = .ok (.iload 6, 2) := by decide +kernel
theorem dX12_broken_29 : decode cX12_broken 29 = .ok (.iadd, 1) := by decide +kernel
theorem dX12_broken_30 : decode cX12_broken 30 = .ok (.iaload, 1) := by decide +kernel
theorem dX12_broken_31 : decode cX12_broken 31 = .ok (.istore 8, 2) := by decide +kernel
theorem dX12_broken_33 : decode cX12_broken 33 = .ok (.aload_n 0, 1) := by decide +kernel
theorem dX12_broken_34 : decode cX12_broken 34 = .ok (.getfield 32, 3) := by decide +kernel
theorem dX12_broken_37 : decode cX12_broken 37 = .ok (.iload 7, 2) := by decide +kernel
theorem dX12_broken_39 : decode cX12_broken 39 = .ok (.iaload, 1) := by decide +kernel
theorem dX12_broken_40 : decode cX12_broken 40 = .ok (.iconst 5, 1) := by decide +kernel
theorem dX12_broken_41 : decode cX12_broken 41 = .ok (.if_icmp .ne 6, 3) := by decide +kernel
theorem dX12_broken_44 : decode cX12_broken 44 = .ok (.goto 287, 3) := by decide +kernel
theorem dX12_broken_47 : decode cX12_broken 47 = .ok (.aload_n 0, 1) := by decide +kernel
theorem dX12_broken_48 : decode cX12_broken 48 = .ok (.getfield 32, 3) := by decide +kernel
theorem dX12_broken_51 : decode cX12_broken 51 = .ok (.iload 7, 2) := by decide +kernel
theorem dX12_broken_53 : decode cX12_broken 53 = .ok (.iaload, 1) := by decide +kernel
theorem dX12_broken_54 : decode cX12_broken 54 = .ok (.iconst 4, 1) := by decide +kernel
theorem dX12_broken_55 : decode cX12_broken 55 = .ok (.if_icmp .ne 28, 3) := by decide +kernel
theorem dX12_broken_58 : decode cX12_broken 58 = .ok (.aload_n 0, 1) := by decide +kernel
theorem dX12_broken_59 : decode cX12_broken 59 = .ok (.getfield 44, 3) := by decide +kernel
theorem dX12_broken_62 : decode cX12_broken 62 = .ok (.iload 7, 2) := by decide +kernel
theorem dX12_broken_64 : decode cX12_broken 64 = .ok (.iaload, 1) := by decide +kernel
theorem dX12_broken_65 : decode cX12_broken 65 = .ok (.iconst 2, 1) := by decide +kernel
theorem dX12_broken_66 : decode cX12_broken 66 = .ok (.iand, 1) := by decide +kernel
theorem dX12_broken_67 : decode cX12_broken 67 = .ok (.ifCond .eq 16, 3) := by decide +kernel
theorem dX12_broken_70 : decode cX12_broken 70 = .ok (.iload 8, 2) := by decide +kernel
theorem dX12_broken_72 : decode cX12_broken 72 = .ok (.ifCond .ne 11, 3) := by decide +kernel
theorem dX12_broken_75 : decode cX12_broken 75 = .ok (.aload_n 0, 1) := by decide +kernel
theorem dX12_broken_76 : decode cX12_broken 76 = .ok (.iload 6, 2) := by decide +kernel
theorem dX12_broken_78 : decode cX12_broken 78 = .ok (.iconst 0, 1) := by decide +kernel
theorem dX12_broken_79 : decode cX12_broken 79 = .ok (.invokevirtual 362, 3) := by decide +kernel
theorem dX12_broken_82 : decode cX12_broken 82 = .ok (.ireturn, 1) := by decide +kernel
theorem dX12_broken_83 : decode cX12_broken 83 = .ok (.aload_n 0, 1) := by decide +kernel
theorem dX12_broken_84 : decode cX12_broken 84 = .ok (.getfield 32, 3) := by decide +kernel
theorem dX12_broken_87 : decode cX12_broken 87 = .ok (.iload 7, 2) := by decide +kernel
theorem dX12_broken_89 : decode cX12_broken 89 = .ok (.iaload, 1) := by decide +kernel
theorem dX12_broken_90 : decode cX12_broken 90 = .ok (.iconst 4, 1) := by decide +kernel
theorem dX12_broken_91 : decode cX12_broken 91 = .ok (.if_icmp .ge 116, 3) := by decide +kernel
theorem dX12_broken_94 : decode cX12_broken 94 = .ok (.aload_n 0, 1) := by decide +kernel
theorem dX12_broken_95 : decode cX12_broken 95 = .ok (.getfield 44, 3) := by decide +kernel
theorem dX12_broken_98 : decode cX12_broken 98 = .ok (.iload 7, 2) := by decide +kernel
theorem dX12_broken_100 : decode cX12_broken 100 = .ok (.iaload, 1) := by decide +kernel
theorem dX12_broken_101 : decode cX12_broken 101 = .ok (.iconst 1, 1) := by decide +kernel
theorem dX12_broken_102 : decode cX12_broken 102 = .ok (.iand, 1) := by decide +kernel
theorem dX12_broken_103 : decode cX12_broken 103 = .ok (.ifCond .eq 104, 3) := by decide +kernel
theorem dX12_broken_106 : decode cX12_broken 106 = .ok (.iconst 0, 1) := by decide +kernel
theorem dX12_broken_107 : decode cX12_broken 107 = .ok (.istore 9, 2) := by decide +kernel
theorem dX12_broken_109 : decode cX12_broken 109 = .ok (.iload 9, 2) := by decide +kernel
theorem dX12_broken_111 : decode cX12_broken 111 = .ok (.aload_n 0, 1) := by decide +kernel
theorem dX12_broken_112 : decode cX12_broken 112 = .ok (.getfield 344, 3) := by decide +kernel
theorem dX12_broken_115 : decode cX12_broken 115 = .ok (.if_icmp .ge 92, 3) := by decide +kernel
theorem dX12_broken_118 : decode cX12_broken 118 = .ok (.aload_n 0, 1) := by decide +kernel
theorem dX12_broken_119 : decode cX12_broken 119 = .ok (.getfield 77, 3) := by decide +kernel
theorem dX12_broken_122 : decode cX12_broken 122 = .ok (.iload 9, 2) := by decide +kernel
theorem dX12_broken_124 : decode cX12_broken 124 = .ok (.iaload, 1) := by decide +kernel
theorem dX12_broken_125 : decode cX12_broken 125 = .ok (.iload_n 1, 1) := by decide +kernel
theorem dX12_broken_126 : decode cX12_broken 126 = .ok (.if_icmp .ne 18, 3) := by decide +kernel
theorem dX12_broken_129 : decode cX12_broken 129 = .ok (.aload_n 0, 1) := by decide +kernel
theorem dX12_broken_130 : decode cX12_broken 130 = .ok (.getfield 80, 3) := by decide +kernel
theorem dX12_broken_133 : decode cX12_broken 133 = .ok (.iload 9, 2) := by decide +kernel
theorem dX12_broken_135 : decode cX12_broken 135 = .ok (.iaload, 1) := by decide +kernel
theorem dX12_broken_136 : decode cX12_broken 136 = .ok (.iload_n 2, 1) := by decide +kernel
theorem dX12_broken_137 : decode cX12_broken 137 = .ok (.if_icmp .ne 7, 3) := by decide +kernel
theorem dX12_broken_140 : decode cX12_broken 140 = .ok (.iconst 1, 1) := by decide +kernel
theorem dX12_broken_141 : decode cX12_broken 141 = .ok (.goto 4, 3) := by decide +kernel
theorem dX12_broken_144 : decode cX12_broken 144 = .ok (.iconst 0, 1) := by decide +kernel
theorem dX12_broken_145 : decode cX12_broken 145 = .ok (.istore 10, 2) := by decide +kernel
theorem dX12_broken_147 : decode cX12_broken 147 = .ok (.iload 10, 2) := by decide +kernel
theorem dX12_broken_149 : decode cX12_broken 149 = .ok (.ifCond .ne 52, 3) := by decide +kernel
theorem dX12_broken_152 : decode cX12_broken 152 = .ok (.aload_n 0, 1) := by decide +kernel
theorem dX12_broken_153 : decode cX12_broken 153 = .ok (.aload_n 0, 1) := by decide +kernel
theorem dX12_broken_154 : decode cX12_broken 154 = .ok (.getfield 83, 3) := by decide +kernel
theorem dX12_broken_157 : decode cX12_broken 157 = .ok (.iload 9, 2) := by decide +kernel
theorem dX12_broken_159 : decode cX12_broken 159 = .ok (.iaload, 1) := by decide +kernel
theorem dX12_broken_160 : decode cX12_broken 160 = .ok (.aload_n 0, 1) := by decide +kernel
theorem dX12_broken_161 : decode cX12_broken 161 = .ok (.getfield 50, 3) := by decide +kernel
theorem dX12_broken_164 : decode cX12_broken 164 = .ok (.iload 7, 2) := by decide +kernel
theorem dX12_broken_166 : decode cX12_broken 166 = .ok (.iaload, 1) := by decide +kernel
theorem dX12_broken_167 : decode cX12_broken 167 = .ok (.iload 6, 2) := by decide +kernel
theorem dX12_broken_169 : decode cX12_broken 169 = .ok (.invokevirtual 366, 3) := by decide +kernel
theorem dX12_broken_172 : decode cX12_broken 172 = .ok (.ifCond .eq 29, 3) := by decide +kernel
theorem dX12_broken_175 : decode cX12_broken 175 = .ok (.aload_n 0, 1) := by decide +kernel
theorem dX12_broken_176 : decode cX12_broken 176 = .ok (.getfield 89, 3) := by decide +kernel
theorem dX12_broken_179 : decode cX12_broken 179 = .ok (.bipush 16, 2) := by decide +kernel
theorem dX12_broken_181 : decode cX12_broken 181 = .ok (.iload 9, 2) := by decide +kernel
theorem dX12_broken_183 : decode cX12_broken 183 = .ok (.imul, 1) := by decide +kernel
theorem dX12_broken_184 : decode cX12_broken 184 = .ok (.iload 6, 2) := by decide +kernel
theorem dX12_broken_186 : decode cX12_broken 186 = .ok (.iadd, 1) := by decide +kernel
theorem dX12_broken_187 : decode cX12_broken 187 = .ok (.iaload, 1) := by decide +kernel
theorem dX12_broken_188 : decode cX12_broken 188 = .ok (.iload 8, 2) := by decide +kernel
theorem dX12_broken_190 : decode cX12_broken 190 = .ok (.if_icmp .ne 11, 3) := by decide +kernel
theorem dX12_broken_193 : decode cX12_broken 193 = .ok (.aload_n 0, 1) := by decide +kernel
theorem dX12_broken_194 : decode cX12_broken 194 = .ok (.iload 6, 2) := by decide +kernel
theorem dX12_broken_196 : decode cX12_broken 196 = .ok (.iconst 1, 1) := by decide +kernel
theorem dX12_broken_197 : decode cX12_broken 197 = .ok (.invokevirtual 362, 3) := by decide +kernel
theorem dX12_broken_200 : decode cX12_broken 200 = .ok (.ireturn, 1) := by decide +kernel
theorem dX12_broken_201 : decode cX12_broken 201 = .ok (.iinc 9 1, 3) := by decide +kernel
theorem dX12_broken_204 : decode cX12_broken 204 = .ok (.goto (-95), 3) := by decide +kernel
theorem dX12_broken_207 : decode cX12_broken 207 = .ok (.aload_n 0, 1) := by decide +kernel
theorem dX12_broken_208 : decode cX12_broken 208 = .ok (.getfield 32, 3) := by decide +kernel
theorem dX12_broken_211 : decode cX12_broken 211 = .ok (.iload 7, 2) := by decide +kernel
theorem dX12_broken_213 : decode cX12_broken 213 = .ok (.iaload, 1) := by decide +kernel
theorem dX12_broken_214 : decode cX12_broken 214 = .ok (.iconst 4, 1) := by decide +kernel
theorem dX12_broken_215 : decode cX12_broken 215 = .ok (.if_icmp .ne 116, 3) := by decide +kernel
theorem dX12_broken_218 : decode cX12_broken 218 = .ok (.iload 8, 2) := by decide +kernel
theorem dX12_broken_220 : decode cX12_broken 220 = .ok (.ifCond .eq 111, 3) := by decide +kernel
theorem dX12_broken_223 : decode cX12_broken 223 = .ok (.aload_n 0, 1) := by decide +kernel
theorem dX12_broken_224 : decode cX12_broken 224 = .ok (.aload_n 0, 1) := by decide +kernel
theorem dX12_broken_225 : decode cX12_broken 225 = .ok (.getfield 35, 3) := by decide +kernel
theorem dX12_broken_228 : decode cX12_broken 228 = .ok (.iload 7, 2) := by decide +kernel
theorem dX12_broken_230 : decode cX12_broken 230 = .ok (.iaload, 1) := by decide +kernel
theorem dX12_broken_231 : decode cX12_broken 231 = .ok (.invokevirtual 353, 3) := by decide +kernel
theorem dX12_broken_234 : decode cX12_broken 234 = .ok (.istore 9, 2) := by decide +kernel
theorem dX12_broken_236 : decode cX12_broken 236 = .ok (.iload 9, 2) := by decide +kernel
theorem dX12_broken_238 : decode cX12_broken 238 = .ok (.iload_n 1, 1) := by decide +kernel
theorem dX12_broken_239 : decode cX12_broken 239 = .ok (.if_icmp .ne 13, 3) := by decide +kernel
theorem dX12_broken_242 : decode cX12_broken 242 = .ok (.iload 8, 2) := by decide +kernel
theorem dX12_broken_244 : decode cX12_broken 244 = .ok (.iload_n 2, 1) := by decide +kernel
theorem dX12_broken_245 : decode cX12_broken 245 = .ok (.if_icmp .ne 7, 3) := by decide +kernel
theorem dX12_broken_248 : decode cX12_broken 248 = .ok (.iconst 1, 1) := by decide +kernel
theorem dX12_broken_249 : decode cX12_broken 249 = .ok (.goto 4, 3) := by decide +kernel
theorem dX12_broken_252 : decode cX12_broken 252 = .ok (.iconst 0, 1) := by decide +kernel
theorem dX12_broken_253 : decode cX12_broken 253 = .ok (.istore 10, 2) := by decide +kernel
theorem dX12_broken_255 : decode cX12_broken 255 = .ok (.iload 10, 2) := by decide +kernel
theorem dX12_broken_257 : decode cX12_broken 257 = .ok (.ifCond .eq 7, 3) := by decide +kernel
theorem dX12_broken_260 : decode cX12_broken 260 = .ok (.iconst (-1), 1) := by decide +kernel
theorem dX12_broken_261 : decode cX12_broken 261 = .ok (.goto 11, 3) := by decide +kernel
theorem dX12_broken_264 : decode cX12_broken 264 = .ok (.aload_n 0, 1) := by decide +kernel
theorem dX12_broken_265 : decode cX12_broken 265 = .ok (.iload 9, 2) := by decide +kernel
theorem dX12_broken_267 : decode cX12_broken 267 = .ok (.iload 8, 2) := by decide +kernel
theorem dX12_broken_269 : decode cX12_broken 269 = .ok (.invokevirtual 369, 3) := by decide +kernel
theorem dX12_broken_272 : decode cX12_broken 272 = .ok (.istore 11, 2) := by decide +kernel
theorem dX12_broken_274 : decode cX12_broken 274 = .ok (.iload 10, 2) := by decide +kernel
theorem dX12_broken_276 : decode cX12_broken 276 = .ok (.ifCond .eq 7, 3) := by decide +kernel
theorem dX12_broken_279 : decode cX12_broken 279 = .ok (.iload_n 3, 1) := by decide +kernel
theorem dX12_broken_280 : decode cX12_broken 280 = .ok (.goto 19, 3) := by decide +kernel
theorem dX12_broken_283 : decode cX12_broken 283 = .ok (.iload 11, 2) := by decide +kernel
theorem dX12_broken_285 : decode cX12_broken 285 = .ok (.ifCond .ge 7, 3) := by decide +kernel
theorem dX12_broken_288 : decode cX12_broken 288 = .ok (.iconst (-1), 1) := by decide +kernel
theorem dX12_broken_289 : decode cX12_broken 289 = .ok (.goto 10, 3) := by decide +kernel
theorem dX12_broken_292 : decode cX12_broken 292 = .ok (.aload_n 0, 1) := by decide +kernel
theorem dX12_broken_293 : decode cX12_broken 293 = .ok (.getfield 83, 3) := by decide +kernel
theorem dX12_broken_296 : decode cX12_broken 296 = .ok (.iload 11, 2) := by decide +kernel
theorem dX12_broken_298 : decode cX12_broken 298 = .ok (.iaload, 1) := by decide +kernel
theorem dX12_broken_299 : decode cX12_broken 299 = .ok (.istore 12, 2) := by decide +kernel
theorem dX12_broken_301 : decode cX12_broken 301 = .ok (.iload 12, 2) := by decide +kernel
theorem dX12_broken_303 : decode cX12_broken 303 = .ok (.ifCond .lt 20, 3) := by decide +kernel
theorem dX12_broken_306 : decode cX12_broken 306 = .ok (.aload_n 0, 1) := by decide +kernel
theorem dX12_broken_307 : decode cX12_broken 307 = .ok (.iconst 0, 1) := by decide +kernel
theorem dX12_broken_308 : decode cX12_broken 308 = .ok (.iload 12, 2) := by decide +kernel
theorem dX12_broken_310 : decode cX12_broken 310 = .ok (.aload_n 0, 1) := by decide +kernel
theorem dX12_broken_311 : decode cX12_broken 311 = .ok (.getfield 35, 3) := by decide +kernel
theorem dX12_broken_314 : decode cX12_broken 314 = .ok (.iload 7, 2) := by decide +kernel
theorem dX12_broken_316 : decode cX12_broken 316 = .ok (.iaload, 1) := by decide +kernel
theorem dX12_broken_317 : decode cX12_broken 317 = .ok (.invokevirtual 315, 3) := by decide +kernel
theorem dX12_broken_320 : decode cX12_broken 320 = .ok (.ifCond .ne 11, 3) := by decide +kernel
theorem dX12_broken_323 : decode cX12_broken 323 = .ok (.aload_n 0, 1) := by decide +kernel
theorem dX12_broken_324 : decode cX12_broken 324 = .ok (.iload 6, 2) := by decide +kernel
theorem dX12_broken_326 : decode cX12_broken 326 = .ok (.iconst 2, 1) := by decide +kernel
theorem dX12_broken_327 : decode cX12_broken 327 = .ok (.invokevirtual 362, 3) := by decide +kernel
theorem dX12_broken_330 : decode cX12_broken 330 = .ok (.ireturn, 1) := by decide +kernel
theorem dX12_broken_331 : decode cX12_broken 331 = .ok (.iinc 6 1, 3) := by decide +kernel
theorem dX12_broken_334 : decode cX12_broken 334 = .ok (.goto (-331), 3) := by decide +kernel
theorem dX12_broken_337 : decode cX12_broken 337 = .ok (.iconst 0, 1) := by decide +kernel
theorem dX12_broken_338 : decode cX12_broken 338 = .ok (.ireturn, 1) := by decide +kernel
theorem dX12_leadsTo_0 : decode cX12_leadsTo 0 = .ok (.iconst (-1), 1) := by decide +kernel
theorem dX12_leadsTo_1 : decode cX12_leadsTo 1 = .ok (.istore_n 3, 1) := by decide +kernel
theorem dX12_leadsTo_2 : decode cX12_leadsTo 2 = .ok (.iconst 0, 1) := by decide +kernel
theorem dX12_leadsTo_3 : decode cX12_leadsTo 3 = .ok (.istore 4, 2) := by decide +kernel
theorem dX12_leadsTo_5 : decode cX12_leadsTo 5 = .ok (.iload 4, 2) := by decide +kernel
theorem dX12_leadsTo_7 : decode cX12_leadsTo 7 = .ok (.aload_n 0, 1) := by decide +kernel
theorem dX12_leadsTo_8 : decode cX12_leadsTo 8 = .ok (.getfield 344, 3) := by decide +kernel
theorem dX12_leadsTo_11 : decode cX12_leadsTo 11 = .ok (.if_icmp .ge 112, 3) := by decide +kernel
theorem dX12_leadsTo_14 : decode cX12_leadsTo 14 = .ok (.aload_n 0, 1) := by decide +kernel
theorem dX12_leadsTo_15 : decode cX12_leadsTo 15 = .ok (.getfield 77, 3) := by decide +kernel
theorem dX12_leadsTo_18 : decode cX12_leadsTo 18 = .ok (.iload 4, 2) := by decide +kernel
theorem dX12_leadsTo_20 : decode cX12_leadsTo 20 = .ok (.iaload, 1) := by decide +kernel
theorem dX12_leadsTo_21 : decode cX12_leadsTo 21 = .ok (.iload_n 1, 1) := by decide +kernel
theorem dX12_leadsTo_22 : decode cX12_leadsTo 22 = .ok (.if_icmp .ne 17, 3) := by decide +kernel
theorem dX12_leadsTo_25 : decode cX12_leadsTo 25 = .ok (.aload_n 0, 1) := by decide +kernel
theorem dX12_leadsTo_26 : decode cX12_leadsTo 26 = .ok (.getfield 80, 3) := by decide +kernel
theorem dX12_leadsTo_29 : decode cX12_leadsTo 29 = .ok (.iload 4, 2) := by decide +kernel
theorem dX12_leadsTo_31 : decode cX12_leadsTo 31 = .ok (.iaload, 1) := by decide +kernel
theorem dX12_leadsTo_32 : decode cX12_leadsTo 32 = .ok (.iload_n 2, 1) := by decide +kernel
theorem dX12_leadsTo_33 : decode cX12_leadsTo 33 = .ok (.if_icmp .ne 6, 3) := by decide +kernel
theorem dX12_leadsTo_36 : decode cX12_leadsTo 36 = .ok (.goto 81, 3) := by decide +kernel
theorem dX12_leadsTo_39 : decode cX12_leadsTo 39 = .ok (.iload_n 3, 1) := by decide +kernel
theorem dX12_leadsTo_40 : decode cX12_leadsTo 40 = .ok (.ifCond .lt 51, 3) := by decide +kernel
theorem dX12_leadsTo_43 : decode cX12_leadsTo 43 = .ok (.aload_n 0, 1) := by decide +kernel
theorem dX12_leadsTo_44 : decode cX12_leadsTo 44 = .ok (.getfield 83, 3) := by decide +kernel
theorem dX12_leadsTo_47 : decode cX12_leadsTo 47 = .ok (.iload 4, 2) := by decide +kernel
theorem dX12_leadsTo_49 : decode cX12_leadsTo 49 = .ok (.iaload, 1) := by decide +kernel
theorem dX12_leadsTo_50 : decode cX12_leadsTo 50 = .ok (.aload_n 0, 1) := by decide +kernel
theorem dX12_leadsTo_51 : decode cX12_leadsTo 51 = .ok (.getfield 83, 3) := by decide +kernel
theorem dX12_leadsTo_54 : decode cX12_leadsTo 54 = .ok (.iload_n 3, 1) := by decide +kernel
theorem dX12_leadsTo_55 : decode cX12_leadsTo 55 = .ok (.iaload, 1) := by decide +kernel
theorem dX12_leadsTo_56 : decode cX12_leadsTo 56 = .ok (.if_icmp .lt 35, 3) := by decide +kernel
theorem dX12_leadsTo_59 : decode cX12_leadsTo 59 = .ok (.aload_n 0, 1) := by decide +kernel
theorem dX12_leadsTo_60 : decode cX12_leadsTo 60 = .ok (.getfield 83, 3) := by decide +kernel
theorem dX12_leadsTo_63 : decode cX12_leadsTo 63 = .ok (.iload 4, 2) := by decide +kernel
theorem dX12_leadsTo_65 : decode cX12_leadsTo 65 = .ok (.iaload, 1) := by decide +kernel
theorem dX12_leadsTo_66 : decode cX12_leadsTo 66 = .ok (.aload_n 0, 1) := by decide +kernel
theorem dX12_leadsTo_67 : decode cX12_leadsTo 67 = .ok (.getfield 83, 3) := by decide +kernel
theorem dX12_leadsTo_70 : decode cX12_leadsTo 70 = .ok (.iload_n 3, 1) := by decide +kernel
theorem dX12_leadsTo_71 : decode cX12_leadsTo 71 = .ok (.iaload, 1) := by decide +kernel
theorem dX12_leadsTo_72 : decode cX12_leadsTo 72 = .ok (.if_icmp .ne 23, 3) := by decide +kernel
theorem dX12_leadsTo_75 : decode cX12_leadsTo 75 = .ok (.aload_n 0, 1) := by decide +kernel
theorem dX12_leadsTo_76 : decode cX12_leadsTo 76 = .ok (.getfield 80, 3) := by decide +kernel
theorem dX12_leadsTo_79 : decode cX12_leadsTo 79 = .ok (.iload 4, 2) := by decide +kernel
theorem dX12_leadsTo_81 : decode cX12_leadsTo 81 = .ok (.iaload, 1) := by decide +kernel
theorem dX12_leadsTo_82 : decode cX12_leadsTo 82 = .ok (.aload_n 0, 1) := by decide +kernel
theorem dX12_leadsTo_83 : decode cX12_leadsTo 83 = .ok (.getfield 80, 3) := by decide +kernel
theorem dX12_leadsTo_86 : decode cX12_leadsTo 86 = .ok (.iload_n 3, 1) := by decide +kernel
theorem dX12_leadsTo_87 : decode cX12_leadsTo 87 = .ok (.iaload, 1) := by decide +kernel
theorem dX12_leadsTo_88 : decode cX12_leadsTo 88 = .ok (.if_icmp .ge 7, 3) := by decide +kernel
theorem dX12_leadsTo_91 : decode cX12_leadsTo 91 = .ok (.iconst 1, 1) := by decide +kernel
theorem dX12_leadsTo_92 : decode cX12_leadsTo 92 = .ok (.goto 4, 3) := by decide +kernel
theorem dX12_leadsTo_95 : decode cX12_leadsTo 95 = .ok (.iconst 0, 1) := by decide +kernel
theorem dX12_leadsTo_96 : decode cX12_leadsTo 96 = .ok (.istore 5, 2) := by decide +kernel
theorem dX12_leadsTo_98 : decode cX12_leadsTo 98 = .ok (.iload 5, 2) := by decide +kernel
theorem dX12_leadsTo_100 : decode cX12_leadsTo 100 = .ok (.ifCond .eq 17, 3) := by decide +kernel
theorem dX12_leadsTo_103 : decode cX12_leadsTo 103 = .ok (.aload_n 0, 1) := by decide +kernel
theorem dX12_leadsTo_104 : decode cX12_leadsTo 104 = .ok (.iload 4, 2) := by decide +kernel
theorem dX12_leadsTo_106 : decode cX12_leadsTo 106 = .ok (.iload_n 1, 1) := by decide +kernel
theorem dX12_leadsTo_107 : decode cX12_leadsTo 107 = .ok (.iload_n 2, 1) := by decide +kernel
theorem dX12_leadsTo_108 : decode cX12_leadsTo 108 = .ok (.invokevirtual 373, 3) := by decide +kernel
theorem dX12_leadsTo_111 : decode cX12_leadsTo 111 = .ok (.ifCond .lt 6, 3) := by decide +kernel
theorem dX12_leadsTo_114 : decode cX12_leadsTo 114 = .ok (.iload 4, 2) := by decide +kernel
theorem dX12_leadsTo_116 : decode cX12_leadsTo 116 = .ok (.istore_n 3, 1) := by decide +kernel
theorem dX12_leadsTo_117 : decode cX12_leadsTo 117 = .ok (.iinc 4 1, 3) := by decide +kernel
theorem dX12_leadsTo_120 : decode cX12_leadsTo 120 = .ok (.goto (-115), 3) := by decide +kernel
theorem dX12_leadsTo_123 : decode cX12_leadsTo 123 = .ok (.iload_n 3, 1) := by decide +kernel
theorem dX12_leadsTo_124 : decode cX12_leadsTo 124 = .ok (.ifCond .lt 17, 3) := by decide +kernel
theorem dX12_leadsTo_127 : decode cX12_leadsTo 127 = .ok (.aload_n 0, 1) := by decide +kernel
theorem dX12_leadsTo_128 : decode cX12_leadsTo 128 = .ok (.aload_n 0, 1) := by decide +kernel
theorem dX12_leadsTo_129 : decode cX12_leadsTo 129 = .ok (.iload_n 3, 1) := by decide +kernel
theorem dX12_leadsTo_130 : decode cX12_leadsTo 130 = .ok (.iload_n 1, 1) := by decide +kernel
theorem dX12_leadsTo_131 : decode cX12_leadsTo 131 = .ok (.iload_n 2, 1) := by decide +kernel
theorem dX12_leadsTo_132 : decode cX12_leadsTo 132 = .ok (.invokevirtual 373, 3) := by decide +kernel
theorem dX12_leadsTo_135 : decode cX12_leadsTo 135 = .ok (.iconst 2, 1) := by decide +kernel
theorem dX12_leadsTo_136 : decode cX12_leadsTo 136 = .ok (.invokevirtual 362, 3) := by decide +kernel
theorem dX12_leadsTo_139 : decode cX12_leadsTo 139 = .ok (.istore 4, 2) := by decide +kernel
theorem dX12_leadsTo_141 : decode cX12_leadsTo 141 = .ok (.iload_n 3, 1) := by decide +kernel
theorem dX12_leadsTo_142 : decode cX12_leadsTo 142 = .ok (.ireturn, 1) := by decide +kernel
theorem dX12_leads_0 : decode cX12_leads 0 = .ok (.aload_n 0, 1) := by decide +kernel
theorem dX12_leads_1 : decode cX12_leads 1 = .ok (.getfield 83, 3) := by decide +kernel
theorem dX12_leads_4 : decode cX12_leads 4 = .ok (.iload_n 1, 1) := by decide +kernel
theorem dX12_leads_5 : decode cX12_leads 5 = .ok (.iaload, 1) := by decide +kernel
theorem dX12_leads_6 : decode cX12_leads 6 = .ok (.istore 4, 2) := by decide +kernel
theorem dX12_leads_8 : decode cX12_leads 8 = .ok (.iconst 0, 1) := by decide +kernel
theorem dX12_leads_9 : decode cX12_leads 9 = .ok (.istore 5, 2) := by decide +kernel
theorem dX12_leads_11 : decode cX12_leads 11 = .ok (.iload 5, 2) := by decide +kernel
theorem dX12_leads_13 : decode cX12_leads 13 = .ok (.aload_n 0, 1) := by decide +kernel
theorem dX12_leads_14 : decode cX12_leads 14 = .ok (.getfield 23, 3) := by decide +kernel
theorem dX12_leads_17 : decode cX12_leads 17 = .ok (.iload 4, 2) := by decide +kernel
theorem dX12_leads_19 : decode cX12_leads 19 = .ok (.iaload, 1) := by decide +kernel
theorem dX12_leads_20 : decode cX12_leads 20 = .ok (.if_icmp .ge 64, 3) := by decide +kernel
theorem dX12_leads_23 : decode cX12_leads 23 = .ok (.bipush 16, 2) := by decide +kernel
theorem dX12_leads_25 : decode cX12_leads 25 = .ok (.iload 4, 2) := by decide +kernel
theorem dX12_leads_27 : decode cX12_leads 27 = .ok (.imul, 1) := by decide +kernel
theorem dX12_leads_28 : decode cX12_leads 28 = .ok (.iload 5, 2) := by decide +kernel
theorem dX12_leads_30 : decode cX12_leads 30 = .ok (.iadd, 1) := by decide +kernel
theorem dX12_leads_31 : decode cX12_leads 31 = .ok (.istore 6, 2) := by decide +kernel
theorem dX12_leads_33 : decode cX12_leads 33 = .ok (.aload_n 0, 1) := by decide +kernel
theorem dX12_leads_34 : decode cX12_leads 34 = .ok (.getfield 32, 3) := by decide +kernel
theorem dX12_leads_37 : decode cX12_leads 37 = .ok (.iload 6, 2) := by decide +kernel
theorem dX12_leads_39 : decode cX12_leads 39 = .ok (.iaload, 1) := by decide +kernel
theorem dX12_leads_40 : decode cX12_leads 40 = .ok (.iconst 4, 1) := by decide +kernel
theorem dX12_leads_41 : decode cX12_leads 41 = .ok (.if_icmp .ne 37, 3) := by decide +kernel
theorem dX12_leads_44 : decode cX12_leads 44 = .ok (.aload_n 0, 1) := by decide +kernel
theorem dX12_leads_45 : decode cX12_leads 45 = .ok (.getfield 89, 3) := by decide +kernel
theorem dX12_leads_48 : decode cX12_leads 48 = .ok (.bipush 16, 2) := by decide +kernel
theorem dX12_leads_50 : decode cX12_leads 50 = .ok (.iload_n 1, 1) := by decide +kernel
theorem dX12_leads_51 : decode cX12_leads 51 = .ok (.imul, 1) := by decide +kernel
theorem dX12_leads_52 : decode cX12_leads 52 = .ok (.iload 5, 2) := by decide +kernel
theorem dX12_leads_54 : decode cX12_leads 54 = .ok (.iadd, 1) := by decide +kernel
theorem dX12_leads_55 : decode cX12_leads 55 = .ok (.iaload, 1) := by decide +kernel
theorem dX12_leads_56 : decode cX12_leads 56 = .ok (.iload_n 3, 1) := by decide +kernel
theorem dX12_leads_57 : decode cX12_leads 57 = .ok (.if_icmp .ne 21, 3) := by decide +kernel
theorem dX12_leads_60 : decode cX12_leads 60 = .ok (.aload_n 0, 1) := by decide +kernel
theorem dX12_leads_61 : decode cX12_leads 61 = .ok (.aload_n 0, 1) := by decide +kernel
theorem dX12_leads_62 : decode cX12_leads 62 = .ok (.getfield 35, 3) := by decide +kernel
theorem dX12_leads_65 : decode cX12_leads 65 = .ok (.iload 6, 2) := by decide +kernel
theorem dX12_leads_67 : decode cX12_leads 67 = .ok (.iaload, 1) := by decide +kernel
theorem dX12_leads_68 : decode cX12_leads 68 = .ok (.invokevirtual 353, 3) := by decide +kernel
theorem dX12_leads_71 : decode cX12_leads 71 = .ok (.iload_n 2, 1) := by decide +kernel
theorem dX12_leads_72 : decode cX12_leads 72 = .ok (.if_icmp .ne 6, 3) := by decide +kernel
theorem dX12_leads_75 : decode cX12_leads 75 = .ok (.iload 5, 2) := by decide +kernel
theorem dX12_leads_77 : decode cX12_leads 77 = .ok (.ireturn, 1) := by decide +kernel
theorem dX12_leads_78 : decode cX12_leads 78 = .ok (.iinc 5 1, 3) := by decide +kernel
theorem dX12_leads_81 : decode cX12_leads 81 = .ok (.goto (-70), 3) := by decide +kernel
theorem dX12_leads_84 : decode cX12_leads 84 = .ok (.iconst (-1), 1) := by decide +kernel
theorem dX12_leads_85 : decode cX12_leads 85 = .ok (.ireturn, 1) := by decide +kernel
theorem dX12_keepRows_0 : decode cX12_keepRows 0 = .ok (.aload_n 0, 1) := by decide +kernel
theorem dX12_keepRows_1 : decode cX12_keepRows 1 = .ok (.aload_n 0, 1) := by decide +kernel
theorem dX12_keepRows_2 : decode cX12_keepRows 2 = .ok (.getfield 344, 3) := by decide +kernel
theorem dX12_keepRows_5 : decode cX12_keepRows 5 = .ok (.putfield 377, 3) := by decide +kernel
theorem dX12_keepRows_8 : decode cX12_keepRows 8 = .ok (.iconst 0, 1) := by decide +kernel
theorem dX12_keepRows_9 : decode cX12_keepRows 9 = .ok (.istore_n 1, 1) := by decide +kernel
theorem dX12_keepRows_10 : decode cX12_keepRows 10 = .ok (.iload_n 1, 1) := by decide +kernel
theorem dX12_keepRows_11 : decode cX12_keepRows 11 = .ok (.aload_n 0, 1) := by decide +kernel
theorem dX12_keepRows_12 : decode cX12_keepRows 12 = .ok (.getfield 344, 3) := by decide +kernel
theorem dX12_keepRows_15 : decode cX12_keepRows 15 = .ok (.if_icmp .ge 57, 3) := by decide +kernel
theorem dX12_keepRows_18 : decode cX12_keepRows 18 = .ok (.aload_n 0, 1) := by decide +kernel
theorem dX12_keepRows_19 : decode cX12_keepRows 19 = .ok (.getfield 95, 3) := by decide +kernel
theorem dX12_keepRows_22 : decode cX12_keepRows 22 = .ok (.iload_n 1, 1) := by decide +kernel
theorem dX12_keepRows_23 : decode cX12_keepRows 23 = .ok (.aload_n 0, 1) := by decide +kernel
theorem dX12_keepRows_24 : decode cX12_keepRows 24 = .ok (.getfield 77, 3) := by decide +kernel
theorem dX12_keepRows_27 : decode cX12_keepRows 27 = .ok (.iload_n 1, 1) := by decide +kernel
theorem dX12_keepRows_28 : decode cX12_keepRows 28 = .ok (.iaload, 1) := by decide +kernel
theorem dX12_keepRows_29 : decode cX12_keepRows 29 = .ok (.iastore, 1) := by decide +kernel
theorem dX12_keepRows_30 : decode cX12_keepRows 30 = .ok (.aload_n 0, 1) := by decide +kernel
theorem dX12_keepRows_31 : decode cX12_keepRows 31 = .ok (.getfield 98, 3) := by decide +kernel
theorem dX12_keepRows_34 : decode cX12_keepRows 34 = .ok (.iload_n 1, 1) := by decide +kernel
theorem dX12_keepRows_35 : decode cX12_keepRows 35 = .ok (.aload_n 0, 1) := by decide +kernel
theorem dX12_keepRows_36 : decode cX12_keepRows 36 = .ok (.getfield 80, 3) := by decide +kernel
theorem dX12_keepRows_39 : decode cX12_keepRows 39 = .ok (.iload_n 1, 1) := by decide +kernel
theorem dX12_keepRows_40 : decode cX12_keepRows 40 = .ok (.iaload, 1) := by decide +kernel
theorem dX12_keepRows_41 : decode cX12_keepRows 41 = .ok (.iastore, 1) := by decide +kernel
theorem dX12_keepRows_42 : decode cX12_keepRows 42 = .ok (.aload_n 0, 1) := by decide +kernel
theorem dX12_keepRows_43 : decode cX12_keepRows 43 = .ok (.getfield 101, 3) := by decide +kernel
theorem dX12_keepRows_46 : decode cX12_keepRows 46 = .ok (.iload_n 1, 1) := by decide +kernel
theorem dX12_keepRows_47 : decode cX12_keepRows 47 = .ok (.aload_n 0, 1) := by decide +kernel
theorem dX12_keepRows_48 : decode cX12_keepRows 48 = .ok (.getfield 83, 3) := by decide +kernel
theorem dX12_keepRows_51 : decode cX12_keepRows 51 = .ok (.iload_n 1, 1) := by decide +kernel
theorem dX12_keepRows_52 : decode cX12_keepRows 52 = .ok (.iaload, 1) := by decide +kernel
theorem dX12_keepRows_53 : decode cX12_keepRows 53 = .ok (.iastore, 1) := by decide +kernel
theorem dX12_keepRows_54 : decode cX12_keepRows 54 = .ok (.aload_n 0, 1) := by decide +kernel
theorem dX12_keepRows_55 : decode cX12_keepRows 55 = .ok (.getfield 104, 3) := by decide +kernel
theorem dX12_keepRows_58 : decode cX12_keepRows 58 = .ok (.iload_n 1, 1) := by decide +kernel
theorem dX12_keepRows_59 : decode cX12_keepRows 59 = .ok (.aload_n 0, 1) := by decide +kernel
theorem dX12_keepRows_60 : decode cX12_keepRows 60 = .ok (.getfield 86, 3) := by decide +kernel
theorem dX12_keepRows_63 : decode cX12_keepRows 63 = .ok (.iload_n 1, 1) := by decide +kernel
theorem dX12_keepRows_64 : decode cX12_keepRows 64 = .ok (.iaload, 1) := by decide +kernel
theorem dX12_keepRows_65 : decode cX12_keepRows 65 = .ok (.iastore, 1) := by decide +kernel
theorem dX12_keepRows_66 : decode cX12_keepRows 66 = .ok (.iinc 1 1, 3) := by decide +kernel
theorem dX12_keepRows_69 : decode cX12_keepRows 69 = .ok (.goto (-59), 3) := by decide +kernel
theorem dX12_keepRows_72 : decode cX12_keepRows 72 = .ok (.iconst 0, 1) := by decide +kernel
theorem dX12_keepRows_73 : decode cX12_keepRows 73 = .ok (.istore_n 1, 1) := by decide +kernel
theorem dX12_keepRows_74 : decode cX12_keepRows 74 = .ok (.iload_n 1, 1) := by decide +kernel
theorem dX12_keepRows_75 : decode cX12_keepRows 75 = .ok (.bipush 16, 2) := by decide +kernel
theorem dX12_keepRows_77 : decode cX12_keepRows 77 = .ok (.aload_n 0, 1) := by decide +kernel
theorem dX12_keepRows_78 : decode cX12_keepRows 78 = .ok (.getfield 344, 3) := by decide +kernel
