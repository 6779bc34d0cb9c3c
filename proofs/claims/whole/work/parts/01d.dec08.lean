theorem dX12_cell_208 : decode cX12_cell 208 = .ok (.ifCond .ne 6, 3) := by decide +kernel
theorem dX12_cell_211 : decode cX12_cell 211 = .ok (.goto 109, 3) := by decide +kernel
theorem dX12_cell_214 : decode cX12_cell 214 = .ok (.iconst 0, 1) := by decide +kernel
theorem dX12_cell_215 : decode cX12_cell 215 = .ok (.istore 11, 2) := by decide +kernel
theorem dX12_cell_217 : decode cX12_cell 217 = .ok (.iload 11, 2) := by decide +kernel
theorem dX12_cell_219 : decode cX12_cell 219 = .ok (.aload_n 0, 1) := by decide +kernel
theorem dX12_cell_220 : decode cX12_cell 220 = .ok (.getfield 23, 3) := by decide +kernel
theorem dX12_cell_223 : decode cX12_cell 223 = .ok (.iload 9, 2) := by decide +kernel
theorem dX12_cell_225 : decode cX12_cell 225 = .ok (.iaload, 1) := by decide +kernel
theorem dX12_cell_226 : decode cX12_cell 226 = .ok (.if_icmp .ge 94, 3) := by decide +kernel
theorem dX12_cell_229 : decode cX12_cell 229 = .ok (.aload_n 0, 1) := by decide +kernel
theorem dX12_cell_230 : decode cX12_cell 230 = .ok (.getfield 32, 3) := by decide +kernel
theorem dX12_cell_233 : decode cX12_cell 233 = .ok (.bipush 16, 2) := by decide +kernel
theorem dX12_cell_235 : decode cX12_cell 235 = .ok (.iload 9, 2) := by decide +kernel
theorem dX12_cell_237 : decode cX12_cell 237 = .ok (.imul, 1) := by decide +kernel
theorem dX12_cell_238 : decode cX12_cell 238 = .ok (.iload 11, 2) := by decide +kernel
theorem dX12_cell_240 : decode cX12_cell 240 = .ok (.iadd, 1) := by decide +kernel
theorem dX12_cell_241 : decode cX12_cell 241 = .ok (.iaload, 1) := by decide +kernel
theorem dX12_cell_242 : decode cX12_cell 242 = .ok (.iconst 5, 1) := by decide +kernel
theorem dX12_cell_243 : decode cX12_cell 243 = .ok (.if_icmp .eq 71, 3) := by decide +kernel
theorem dX12_cell_246 : decode cX12_cell 246 = .ok (.iload 6, 2) := by decide +kernel
theorem dX12_cell_248 : decode cX12_cell 248 = .ok (.iconst 2, 1) := by decide +kernel
theorem dX12_cell_249 : decode cX12_cell 249 = .ok (.if_icmp .eq 24, 3) := by decide +kernel
theorem dX12_cell_252 : decode cX12_cell 252 = .ok (.aload_n 0, 1) := by decide +kernel
theorem dX12_cell_253 : decode cX12_cell 253 = .ok (.getfield 50, 3) := by decide +kernel
theorem dX12_cell_256 : decode cX12_cell 256 = .ok (.bipush 16, 2) := by decide +kernel
theorem dX12_cell_258 : decode cX12_cell 258 = .ok (.iload 9, 2) := by decide +kernel
theorem dX12_cell_260 : decode cX12_cell 260 = .ok (.imul, 1) := by decide +kernel
theorem dX12_cell_261 : decode cX12_cell 261 = .ok (.iload 11, 2) := by decide +kernel
theorem dX12_cell_263 : decode cX12_cell 263 = .ok (.iadd, 1) := by decide +kernel
theorem dX12_cell_264 : decode cX12_cell 264 = .ok (.iaload, 1) := by decide +kernel
theorem dX12_cell_265 : decode cX12_cell 265 = .ok (.iload 9, 2) := by decide +kernel
theorem dX12_cell_267 : decode cX12_cell 267 = .ok (.if_icmp .eq 6, 3) := by decide +kernel
theorem dX12_cell_270 : decode cX12_cell 270 = .ok (.goto 44, 3) := by decide +kernel
theorem dX12_cell_273 : decode cX12_cell 273 = .ok (.iload 8, 2) := by decide +kernel
theorem dX12_cell_275 : decode cX12_cell 275 = .ok (.ifCond .ne 36, 3) := by decide +kernel
theorem dX12_cell_278 : decode cX12_cell 278 = .ok (.aload_n 0, 1) := by decide +kernel
theorem dX12_cell_279 : decode cX12_cell 279 = .ok (.iconst 0, 1) := by decide +kernel
theorem dX12_cell_280 : decode cX12_cell 280 = .ok (.iload 7, 2) := by decide +kernel
theorem dX12_cell_282 : decode cX12_cell 282 = .ok (.iload 9, 2) := by decide +kernel
theorem dX12_cell_284 : decode cX12_cell 284 = .ok (.invokevirtual 315, 3) := by decide +kernel
theorem dX12_cell_287 : decode cX12_cell 287 = .ok (.ifCond .eq 20, 3) := by decide +kernel
theorem dX12_cell_290 : decode cX12_cell 290 = .ok (.aload_n 0, 1) := by decide +kernel
theorem dX12_cell_291 : decode cX12_cell 291 = .ok (.getfield 89, 3) := by decide +kernel
theorem dX12_cell_294 : decode cX12_cell 294 = .ok (.bipush 16, 2) := by decide +kernel
theorem dX12_cell_296 : decode cX12_cell 296 = .ok (.iload 5, 2) := by decide +kernel
theorem dX12_cell_298 : decode cX12_cell 298 = .ok (.imul, 1) := by decide +kernel
theorem dX12_cell_299 : decode cX12_cell 299 = .ok (.iload 11, 2) := by decide +kernel
theorem dX12_cell_301 : decode cX12_cell 301 = .ok (.iadd, 1) := by decide +kernel
theorem dX12_cell_302 : decode cX12_cell 302 = .ok (.iaload, 1) := by decide +kernel
theorem dX12_cell_303 : decode cX12_cell 303 = .ok (.i2l, 1) := by decide +kernel
theorem dX12_cell_304 : decode cX12_cell 304 = .ok (.goto 6, 3) := by decide +kernel
theorem dX12_cell_307 : decode cX12_cell 307 = .ok (.ldc2_w 495, 3) := by decide +kernel
theorem dX12_cell_310 : decode cX12_cell 310 = .ok (.lreturn, 1) := by decide +kernel
theorem dX12_cell_311 : decode cX12_cell 311 = .ok (.iinc 8 (-1), 3) := by decide +kernel
theorem dX12_cell_314 : decode cX12_cell 314 = .ok (.iinc 11 1, 3) := by decide +kernel
theorem dX12_cell_317 : decode cX12_cell 317 = .ok (.goto (-100), 3) := by decide +kernel
theorem dX12_cell_320 : decode cX12_cell 320 = .ok (.iinc 9 1, 3) := by decide +kernel
theorem dX12_cell_323 : decode cX12_cell 323 = .ok (.goto (-163), 3) := by decide +kernel
theorem dX12_cell_326 : decode cX12_cell 326 = .ok (.ldc2_w 412, 3) := by decide +kernel
theorem dX12_cell_329 : decode cX12_cell 329 = .ok (.lreturn, 1) := by decide +kernel
theorem dX12_does_0 : decode cX12_does 0 = .ok (.aload_n 0, 1) := by decide +kernel
theorem dX12_does_1 : decode cX12_does 1 = .ok (.getfield 196, 3) := by decide +kernel
theorem dX12_does_4 : decode cX12_does 4 = .ok (.aload_n 0, 1) := by decide +kernel
theorem dX12_does_5 : decode cX12_does 5 = .ok (.getfield 497, 3) := by decide +kernel
theorem dX12_does_8 : decode cX12_does 8 = .ok (.iload_n 1, 1) := by decide +kernel
theorem dX12_does_9 : decode cX12_does 9 = .ok (.iastore, 1) := by decide +kernel
theorem dX12_does_10 : decode cX12_does 10 = .ok (.aload_n 0, 1) := by decide +kernel
theorem dX12_does_11 : decode cX12_does 11 = .ok (.getfield 199, 3) := by decide +kernel
theorem dX12_does_14 : decode cX12_does 14 = .ok (.aload_n 0, 1) := by decide +kernel
theorem dX12_does_15 : decode cX12_does 15 = .ok (.getfield 497, 3) := by decide +kernel
theorem dX12_does_18 : decode cX12_does 18 = .ok (.iload_n 2, 1) := by decide +kernel
theorem dX12_does_19 : decode cX12_does 19 = .ok (.iastore, 1) := by decide +kernel
theorem dX12_does_20 : decode cX12_does 20 = .ok (.aload_n 0, 1) := by decide +kernel
theorem dX12_does_21 : decode cX12_does 21 = .ok (.getfield 202, 3) := by decide +kernel
theorem dX12_does_24 : decode cX12_does 24 = .ok (.aload_n 0, 1) := by decide +kernel
theorem dX12_does_25 : decode cX12_does 25 = .ok (.getfield 497, 3) := by decide +kernel
theorem dX12_does_28 : decode cX12_does 28 = .ok (.iload_n 3, 1) := by decide +kernel
theorem dX12_does_29 : decode cX12_does 29 = .ok (.iastore, 1) := by decide +kernel
theorem dX12_does_30 : decode cX12_does 30 = .ok (.aload_n 0, 1) := by decide +kernel
theorem dX12_does_31 : decode cX12_does 31 = .ok (.getfield 205, 3) := by decide +kernel
theorem dX12_does_34 : decode cX12_does 34 = .ok (.aload_n 0, 1) := by decide +kernel
theorem dX12_does_35 : decode cX12_does 35 = .ok (.getfield 497, 3) := by decide +kernel
theorem dX12_does_38 : decode cX12_does 38 = .ok (.iload 4, 2) := by decide +kernel
theorem dX12_does_40 : decode cX12_does 40 = .ok (.iastore, 1) := by decide +kernel
theorem dX12_does_41 : decode cX12_does 41 = .ok (.aload_n 0, 1) := by decide +kernel
theorem dX12_does_42 : decode cX12_does 42 = .ok (.getfield 208, 3) := by decide +kernel
theorem dX12_does_45 : decode cX12_does 45 = .ok (.aload_n 0, 1) := by decide +kernel
theorem dX12_does_46 : decode cX12_does 46 = .ok (.getfield 497, 3) := by decide +kernel
theorem dX12_does_49 : decode cX12_does 49 = .ok (.iload 5, 2) := by decide +kernel
theorem dX12_does_51 : decode cX12_does 51 = .ok (.iastore, 1) := by decide +kernel
theorem dX12_does_52 : decode cX12_does 52 = .ok (.aload_n 0, 1) := by decide +kernel
theorem dX12_does_53 : decode cX12_does 53 = .ok (.dup, 1) := by decide +kernel
theorem dX12_does_54 : decode cX12_does 54 = .ok (.getfield 497, 3) := by decide +kernel
theorem dX12_does_57 : decode cX12_does 57 = .ok (.iconst 1, 1) := by decide +kernel
theorem dX12_does_58 : decode cX12_does 58 = .ok (.iadd, 1) := by decide +kernel
theorem dX12_does_59 : decode cX12_does 59 = .ok (.putfield 497, 3) := by decide +kernel
theorem dX12_does_62 : decode cX12_does 62 = .ok (.return_, 1) := by decide +kernel
theorem dX12_isWaiting_0 : decode cX12_isWaiting 0 = .ok (.aload_n 0, 1) := by decide +kernel
theorem dX12_isWaiting_1 : decode cX12_isWaiting 1 = .ok (.getfield 500, 3) := by decide +kernel
theorem dX12_isWaiting_4 : decode cX12_isWaiting 4 = .ok (.ifCond .le 22, 3) := by decide +kernel
theorem dX12_isWaiting_7 : decode cX12_isWaiting 7 = .ok (.aload_n 0, 1) := by decide +kernel
theorem dX12_isWaiting_8 : decode cX12_isWaiting 8 = .ok (.getfield 217, 3) := by decide +kernel
theorem dX12_isWaiting_11 : decode cX12_isWaiting 11 = .ok (.aload_n 0, 1) := by decide +kernel
theorem dX12_isWaiting_12 : decode cX12_isWaiting 12 = .ok (.getfield 500, 3) := by decide +kernel
theorem dX12_isWaiting_15 : decode cX12_isWaiting 15 = .ok (.iconst 1, 1) := by decide +kernel
theorem dX12_isWaiting_16 : decode cX12_isWaiting 16 = .ok (.isub, 1) := by decide +kernel
theorem dX12_isWaiting_17 : decode cX12_isWaiting 17 = .ok (.iaload, 1) := by decide +kernel
theorem dX12_isWaiting_18 : decode cX12_isWaiting 18 = .ok (.iload_n 1, 1) := by decide +kernel
theorem dX12_isWaiting_19 : decode cX12_isWaiting 19 = .ok (.if_icmp .ne 7, 3) := by decide +kernel
theorem dX12_isWaiting_22 : decode cX12_isWaiting 22 = .ok (.iconst 1, 1) := by decide +kernel
theorem dX12_isWaiting_23 : decode cX12_isWaiting 23 = .ok (.goto 4, 3) := by decide +kernel
theorem dX12_isWaiting_26 : decode cX12_isWaiting 26 = .ok (.iconst 0, 1) := by decide +kernel
theorem dX12_isWaiting_27 : decode cX12_isWaiting 27 = .ok (.ireturn, 1) := by decide +kernel
theorem dX12_goes_0 : decode cX12_goes 0 = .ok (.aload_n 0, 1) := by decide +kernel
theorem dX12_goes_1 : decode cX12_goes 1 = .ok (.dup, 1) := by decide +kernel
theorem dX12_goes_2 : decode cX12_goes 2 = .ok (.getfield 500, 3) := by decide +kernel
theorem dX12_goes_5 : decode cX12_goes 5 = .ok (.iconst 1, 1) := by decide +kernel
theorem dX12_goes_6 : decode cX12_goes 6 = .ok (.isub, 1) := by decide +kernel
theorem dX12_goes_7 : decode cX12_goes 7 = .ok (.putfield 500, 3) := by decide +kernel
theorem dX12_goes_10 : decode cX12_goes 10 = .ok (.aload_n 0, 1) := by decide +kernel
theorem dX12_goes_11 : decode cX12_goes 11 = .ok (.aload_n 0, 1) := by decide +kernel
theorem dX12_goes_12 : decode cX12_goes 12 = .ok (.getfield 217, 3) := by decide +kernel
theorem dX12_goes_15 : decode cX12_goes 15 = .ok (.aload_n 0, 1) := by decide +kernel
theorem dX12_goes_16 : decode cX12_goes 16 = .ok (.getfield 500, 3) := by decide +kernel
theorem dX12_goes_19 : decode cX12_goes 19 = .ok (.iaload, 1) := by decide +kernel
theorem dX12_goes_20 : decode cX12_goes 20 = .ok (.iconst 0, 1) := by decide +kernel
theorem dX12_goes_21 : decode cX12_goes 21 = .ok (.iconst 0, 1) := by decide +kernel
theorem dX12_goes_22 : decode cX12_goes 22 = .ok (.iconst 0, 1) := by decide +kernel
theorem dX12_goes_23 : decode cX12_goes 23 = .ok (.iconst 0, 1) := by decide +kernel
theorem dX12_goes_24 : decode cX12_goes 24 = .ok (.invokevirtual 503, 3) := by decide +kernel
theorem dX12_goes_27 : decode cX12_goes 27 = .ok (.return_, 1) := by decide +kernel
theorem dX12_waitsToo_0 : decode cX12_waitsToo 0 = .ok (.aload_n 0, 1) := by decide +kernel
theorem dX12_waitsToo_1 : decode cX12_waitsToo 1 = .ok (.getfield 217, 3) := by decide +kernel
theorem dX12_waitsToo_4 : decode cX12_waitsToo 4 = .ok (.aload_n 0, 1) := by decide +kernel
theorem dX12_waitsToo_5 : decode cX12_waitsToo 5 = .ok (.getfield 500, 3) := by decide +kernel
theorem dX12_waitsToo_8 : decode cX12_waitsToo 8 = .ok (.iload_n 1, 1) := by decide +kernel
theorem dX12_waitsToo_9 : decode cX12_waitsToo 9 = .ok (.iastore, 1) := by decide +kernel
theorem dX12_waitsToo_10 : decode cX12_waitsToo 10 = .ok (.aload_n 0, 1) := by decide +kernel
theorem dX12_waitsToo_11 : decode cX12_waitsToo 11 = .ok (.dup, 1) := by decide +kernel
theorem dX12_waitsToo_12 : decode cX12_waitsToo 12 = .ok (.getfield 500, 3) := by decide +kernel
theorem dX12_waitsToo_15 : decode cX12_waitsToo 15 = .ok (.iconst 1, 1) := by decide +kernel
theorem dX12_waitsToo_16 : decode cX12_waitsToo 16 = .ok (.iadd, 1) := by decide +kernel
theorem dX12_waitsToo_17 : decode cX12_waitsToo 17 = .ok (.putfield 500, 3) := by decide +kernel
theorem dX12_waitsToo_20 : decode cX12_waitsToo 20 = .ok (.aload_n 0, 1) := by decide +kernel
theorem dX12_waitsToo_21 : decode cX12_waitsToo 21 = .ok (.invokevirtual 271, 3) := by decide +kernel
theorem dX12_waitsToo_24 : decode cX12_waitsToo 24 = .ok (.return_, 1) := by decide +kernel
theorem dX12_endsNot_0 : decode cX12_endsNot 0 = .ok (.aload_n 0, 1) := by decide +kernel
theorem dX12_endsNot_1 : decode cX12_endsNot 1 = .ok (.iconst 2, 1) := by decide +kernel
theorem dX12_endsNot_2 : decode cX12_endsNot 2 = .ok (.invokevirtual 507, 3) := by decide +kernel
theorem dX12_endsNot_5 : decode cX12_endsNot 5 = .ok (.ifCond .eq 20, 3) := by decide +kernel
theorem dX12_endsNot_8 : decode cX12_endsNot 8 = .ok (.aload_n 0, 1) := by decide +kernel
theorem dX12_endsNot_9 : decode cX12_endsNot 9 = .ok (.invokevirtual 510, 3) := by decide +kernel
theorem dX12_endsNot_12 : decode cX12_endsNot 12 = .ok (.aload_n 0, 1) := by decide +kernel
theorem dX12_endsNot_13 : decode cX12_endsNot 13 = .ok (.dup, 1) := by decide +kernel
theorem dX12_endsNot_14 : decode cX12_endsNot 14 = .ok (.getfield 513, 3) := by decide +kernel
theorem dX12_endsNot_17 : decode cX12_endsNot 17 = .ok (.iconst 1, 1) := by decide +kernel
theorem dX12_endsNot_18 : decode cX12_endsNot 18 = .ok (.isub, 1) := by decide +kernel
theorem dX12_endsNot_19 : decode cX12_endsNot 19 = .ok (.putfield 513, 3) := by decide +kernel
theorem dX12_endsNot_22 : decode cX12_endsNot 22 = .ok (.goto (-22), 3) := by decide +kernel
theorem dX12_endsNot_25 : decode cX12_endsNot 25 = .ok (.return_, 1) := by decide +kernel
theorem dX12_readTruth_0 : decode cX12_readTruth 0 = .ok (.aload_n 0, 1) := by decide +kernel
theorem dX12_readTruth_1 : decode cX12_readTruth 1 = .ok (.iconst 0, 1) := by decide +kernel
theorem dX12_readTruth_2 : decode cX12_readTruth 2 = .ok (.putfield 500, 3) := by decide +kernel
theorem dX12_readTruth_5 : decode cX12_readTruth 5 = .ok (.iconst 1, 1) := by decide +kernel
theorem dX12_readTruth_6 : decode cX12_readTruth 6 = .ok (.istore_n 1, 1) := by decide +kernel
theorem dX12_readTruth_7 : decode cX12_readTruth 7 = .ok (.iconst 1, 1) := by decide +kernel
theorem dX12_readTruth_8 : decode cX12_readTruth 8 = .ok (.istore_n 2, 1) := by decide +kernel
theorem dX12_readTruth_9 : decode cX12_readTruth 9 = .ok (.iload_n 2, 1) := by decide +kernel
theorem dX12_readTruth_10 : decode cX12_readTruth 10 = .ok (.ifCond .eq 234, 3) := by decide +kernel
theorem dX12_readTruth_13 : decode cX12_readTruth 13 = .ok (.aload_n 0, 1) := by decide +kernel
theorem dX12_readTruth_14 : decode cX12_readTruth 14 = .ok (.invokevirtual 284, 3) := by decide +kernel
theorem dX12_readTruth_17 : decode cX12_readTruth 17 = .ok (.istore_n 3, 1) := by decide +kernel
theorem dX12_readTruth_18 : decode cX12_readTruth 18 = .ok (.iload_n 1, 1) := by decide +kernel
theorem dX12_readTruth_19 : decode cX12_readTruth 19 = .ok (.ifCond .eq 61, 3) := by decide +kernel
theorem dX12_readTruth_22 : decode cX12_readTruth 22 = .ok (.iload_n 3, 1) := by decide +kernel
theorem dX12_readTruth_23 : decode cX12_readTruth 23 = .ok (.bipush 21, 2) := by decide +kernel
theorem dX12_readTruth_25 : decode cX12_readTruth 25 = .ok (.if_icmp .eq 12, 3) := by decide +kernel
theorem dX12_readTruth_28 : decode cX12_readTruth 28 = .ok (.aload_n 0, 1) := by decide +kernel
theorem dX12_readTruth_29 : decode cX12_readTruth 29 = .ok (.bipush 40, 2) := by decide +kernel
theorem dX12_readTruth_31 : decode cX12_readTruth 31 = .ok (.invokevirtual 264, 3) := by decide +kernel
theorem dX12_readTruth_34 : decode cX12_readTruth 34 = .ok (.ifCond .eq 46, 3) := by decide +kernel
theorem dX12_readTruth_37 : decode cX12_readTruth 37 = .ok (.aload_n 0, 1) := by decide +kernel
theorem dX12_readTruth_38 : decode cX12_readTruth 38 = .ok (.getfield 513, 3) := by decide +kernel
theorem dX12_readTruth_41 : decode cX12_readTruth 41 = .ok (.bipush 20, 2) := by decide +kernel
theorem dX12_readTruth_43 : decode cX12_readTruth 43 = .ok (.if_icmp .ne 9, 3) := by decide +kernel
theorem dX12_readTruth_46 : decode cX12_readTruth 46 = .ok (.aload_n 0, 1) := by decide +kernel
theorem dX12_readTruth_47 : decode cX12_readTruth 47 = .ok (.iconst 4, 1) := by decide +kernel
theorem dX12_readTruth_48 : decode cX12_readTruth 48 = .ok (.invokevirtual 261, 3) := by decide +kernel
theorem dX12_readTruth_51 : decode cX12_readTruth 51 = .ok (.ireturn, 1) := by decide +kernel
theorem dX12_readTruth_52 : decode cX12_readTruth 52 = .ok (.aload_n 0, 1) := by decide +kernel
theorem dX12_readTruth_53 : decode cX12_readTruth 53 = .ok (.dup, 1) := by decide +kernel
theorem dX12_readTruth_54 : decode cX12_readTruth 54 = .ok (.getfield 513, 3) := by decide +kernel
theorem dX12_readTruth_57 : decode cX12_readTruth 57 = .ok (.iconst 1, 1) := by decide +kernel
theorem dX12_readTruth_58 : decode cX12_readTruth 58 = .ok (.iadd, 1) := by decide +kernel
theorem dX12_readTruth_59 : decode cX12_readTruth 59 = .ok (.putfield 513, 3) := by decide +kernel
theorem dX12_readTruth_62 : decode cX12_readTruth 62 = .ok (.aload_n 0, 1) := by decide +kernel
theorem dX12_readTruth_63 : decode cX12_readTruth 63 = .ok (.iload_n 3, 1) := by decide +kernel
theorem dX12_readTruth_64 : decode cX12_readTruth 64 = .ok (.bipush 21, 2) := by decide +kernel
theorem dX12_readTruth_66 : decode cX12_readTruth 66 = .ok (.if_icmp .ne 7, 3) := by decide +kernel
theorem dX12_readTruth_69 : decode cX12_readTruth 69 = .ok (.iconst 2, 1) := by decide +kernel
theorem dX12_readTruth_70 : decode cX12_readTruth 70 = .ok (.goto 4, 3) := by decide +kernel
theorem dX12_readTruth_73 : decode cX12_readTruth 73 = .ok (.iconst 5, 1) := by decide +kernel
theorem dX12_readTruth_74 : decode cX12_readTruth 74 = .ok (.invokevirtual 516, 3) := by decide +kernel
theorem dX12_readTruth_77 : decode cX12_readTruth 77 = .ok (.goto 164, 3) := by decide +kernel
theorem dX12_readTruth_80 : decode cX12_readTruth 80 = .ok (.iload_n 1, 1) := by decide +kernel
theorem dX12_readTruth_81 : decode cX12_readTruth 81 = .ok (.ifCond .eq 42, 3) := by decide +kernel
theorem dX12_readTruth_84 : decode cX12_readTruth 84 = .ok (.iload_n 3, 1) := by decide +kernel
theorem dX12_readTruth_85 : decode cX12_readTruth 85 = .ok (.bipush 22, 2) := by decide +kernel
theorem dX12_readTruth_87 : decode cX12_readTruth 87 = .ok (.if_icmp .ne 7, 3) := by decide +kernel
theorem dX12_readTruth_90 : decode cX12_readTruth 90 = .ok (.aload_n 0, 1) := by decide +kernel
theorem dX12_readTruth_91 : decode cX12_readTruth 91 = .ok (.invokevirtual 271, 3) := by decide +kernel
theorem dX12_readTruth_94 : decode cX12_readTruth 94 = .ok (.aload_n 0, 1) := by decide +kernel
theorem dX12_readTruth_95 : decode cX12_readTruth 95 = .ok (.iload_n 3, 1) := by decide +kernel
theorem dX12_readTruth_96 : decode cX12_readTruth 96 = .ok (.bipush 22, 2) := by decide +kernel
theorem dX12_readTruth_98 : decode cX12_readTruth 98 = .ok (.if_icmp .ne 7, 3) := by decide +kernel
theorem dX12_readTruth_101 : decode cX12_readTruth 101 = .ok (.iconst 1, 1) := by decide +kernel
theorem dX12_readTruth_102 : decode cX12_readTruth 102 = .ok (.goto 4, 3) := by decide +kernel
theorem dX12_readTruth_105 : decode cX12_readTruth 105 = .ok (.iconst 0, 1) := by decide +kernel
theorem dX12_readTruth_106 : decode cX12_readTruth 106 = .ok (.invokevirtual 519, 3) := by decide +kernel
theorem dX12_readTruth_109 : decode cX12_readTruth 109 = .ok (.ifCond .ne 5, 3) := by decide +kernel
theorem dX12_readTruth_112 : decode cX12_readTruth 112 = .ok (.iconst 0, 1) := by decide +kernel
theorem dX12_readTruth_113 : decode cX12_readTruth 113 = .ok (.ireturn, 1) := by decide +kernel
theorem dX12_readTruth_114 : decode cX12_readTruth 114 = .ok (.aload_n 0, 1) := by decide +kernel
theorem dX12_readTruth_115 : decode cX12_readTruth 115 = .ok (.invokevirtual 523, 3) := by decide +kernel
theorem dX12_readTruth_118 : decode cX12_readTruth 118 = .ok (.iconst 0, 1) := by decide +kernel
theorem dX12_readTruth_119 : decode cX12_readTruth 119 = .ok (.istore_n 1, 1) := by decide +kernel
theorem dX12_readTruth_120 : decode cX12_readTruth 120 = .ok (.goto 121, 3) := by decide +kernel
theorem dX12_readTruth_123 : decode cX12_readTruth 123 = .ok (.iload_n 3, 1) := by decide +kernel
theorem dX12_readTruth_124 : decode cX12_readTruth 124 = .ok (.bipush 20, 2) := by decide +kernel
theorem dX12_readTruth_126 : decode cX12_readTruth 126 = .ok (.if_icmp .ne 28, 3) := by decide +kernel
theorem dX12_readTruth_129 : decode cX12_readTruth 129 = .ok (.aload_n 0, 1) := by decide +kernel
theorem dX12_readTruth_130 : decode cX12_readTruth 130 = .ok (.iconst 3, 1) := by decide +kernel
theorem dX12_readTruth_131 : decode cX12_readTruth 131 = .ok (.invokevirtual 507, 3) := by decide +kernel
theorem dX12_readTruth_134 : decode cX12_readTruth 134 = .ok (.ifCond .eq 10, 3) := by decide +kernel
theorem dX12_readTruth_137 : decode cX12_readTruth 137 = .ok (.aload_n 0, 1) := by decide +kernel
theorem dX12_readTruth_138 : decode cX12_readTruth 138 = .ok (.invokevirtual 510, 3) := by decide +kernel
theorem dX12_readTruth_141 : decode cX12_readTruth 141 = .ok (.goto (-12), 3) := by decide +kernel
theorem dX12_readTruth_144 : decode cX12_readTruth 144 = .ok (.aload_n 0, 1) := by decide +kernel
theorem dX12_readTruth_145 : decode cX12_readTruth 145 = .ok (.iconst 3, 1) := by decide +kernel
theorem dX12_readTruth_146 : decode cX12_readTruth 146 = .ok (.invokevirtual 516, 3) := by decide +kernel
theorem dX12_readTruth_149 : decode cX12_readTruth 149 = .ok (.iconst 1, 1) := by decide +kernel
theorem dX12_readTruth_150 : decode cX12_readTruth 150 = .ok (.istore_n 1, 1) := by decide +kernel
theorem dX12_readTruth_151 : decode cX12_readTruth 151 = .ok (.goto 90, 3) := by decide +kernel
theorem dX12_readTruth_154 : decode cX12_readTruth 154 = .ok (.aload_n 0, 1) := by decide +kernel
theorem dX12_readTruth_155 : decode cX12_readTruth 155 = .ok (.iconst 3, 1) := by decide +kernel
theorem dX12_readTruth_156 : decode cX12_readTruth 156 = .ok (.invokevirtual 507, 3) := by decide +kernel
theorem dX12_readTruth_159 : decode cX12_readTruth 159 = .ok (.ifCond .ne 11, 3) := by decide +kernel
theorem dX12_readTruth_162 : decode cX12_readTruth 162 = .ok (.aload_n 0, 1) := by decide +kernel
theorem dX12_readTruth_163 : decode cX12_readTruth 163 = .ok (.iconst 4, 1) := by decide +kernel
theorem dX12_readTruth_164 : decode cX12_readTruth 164 = .ok (.invokevirtual 507, 3) := by decide +kernel
theorem dX12_readTruth_167 : decode cX12_readTruth 167 = .ok (.ifCond .eq 10, 3) := by decide +kernel
theorem dX12_readTruth_170 : decode cX12_readTruth 170 = .ok (.aload_n 0, 1) := by decide +kernel
theorem dX12_readTruth_171 : decode cX12_readTruth 171 = .ok (.invokevirtual 510, 3) := by decide +kernel
theorem dX12_readTruth_174 : decode cX12_readTruth 174 = .ok (.goto (-20), 3) := by decide +kernel
theorem dX12_readTruth_177 : decode cX12_readTruth 177 = .ok (.iload_n 3, 1) := by decide +kernel
theorem dX12_readTruth_178 : decode cX12_readTruth 178 = .ok (.bipush 19, 2) := by decide +kernel
theorem dX12_readTruth_180 : decode cX12_readTruth 180 = .ok (.if_icmp .ne 13, 3) := by decide +kernel
theorem dX12_readTruth_183 : decode cX12_readTruth 183 = .ok (.aload_n 0, 1) := by decide +kernel
theorem dX12_readTruth_184 : decode cX12_readTruth 184 = .ok (.iconst 4, 1) := by decide +kernel
theorem dX12_readTruth_185 : decode cX12_readTruth 185 = .ok (.invokevirtual 516, 3) := by decide +kernel
theorem dX12_readTruth_188 : decode cX12_readTruth 188 = .ok (.iconst 1, 1) := by decide +kernel
theorem dX12_readTruth_189 : decode cX12_readTruth 189 = .ok (.istore_n 1, 1) := by decide +kernel
theorem dX12_readTruth_190 : decode cX12_readTruth 190 = .ok (.goto 51, 3) := by decide +kernel
theorem dX12_readTruth_193 : decode cX12_readTruth 193 = .ok (.aload_n 0, 1) := by decide +kernel
theorem dX12_readTruth_194 : decode cX12_readTruth 194 = .ok (.iconst 5, 1) := by decide +kernel
theorem dX12_readTruth_195 : decode cX12_readTruth 195 = .ok (.invokevirtual 507, 3) := by decide +kernel
theorem dX12_readTruth_198 : decode cX12_readTruth 198 = .ok (.ifCond .eq 41, 3) := by decide +kernel
theorem dX12_readTruth_201 : decode cX12_readTruth 201 = .ok (.aload_n 0, 1) := by decide +kernel
theorem dX12_readTruth_202 : decode cX12_readTruth 202 = .ok (.bipush 41, 2) := by decide +kernel
theorem dX12_readTruth_204 : decode cX12_readTruth 204 = .ok (.invokevirtual 326, 3) := by decide +kernel
theorem dX12_readTruth_207 : decode cX12_readTruth 207 = .ok (.ifCond .ne 5, 3) := by decide +kernel
theorem dX12_readTruth_210 : decode cX12_readTruth 210 = .ok (.iconst 0, 1) := by decide +kernel
theorem dX12_readTruth_211 : decode cX12_readTruth 211 = .ok (.ireturn, 1) := by decide +kernel
theorem dX12_readTruth_212 : decode cX12_readTruth 212 = .ok (.aload_n 0, 1) := by decide +kernel
theorem dX12_readTruth_213 : decode cX12_readTruth 213 = .ok (.dup, 1) := by decide +kernel
theorem dX12_readTruth_214 : decode cX12_readTruth 214 = .ok (.getfield 500, 3) := by decide +kernel
theorem dX12_readTruth_217 : decode cX12_readTruth 217 = .ok (.iconst 1, 1) := by decide +kernel
theorem dX12_readTruth_218 : decode cX12_readTruth 218 = .ok (.isub, 1) := by decide +kernel
theorem dX12_readTruth_219 : decode cX12_readTruth 219 = .ok (.putfield 500, 3) := by decide +kernel
theorem dX12_readTruth_222 : decode cX12_readTruth 222 = .ok (.aload_n 0, 1) := by decide +kernel
theorem dX12_readTruth_223 : decode cX12_readTruth 223 = .ok (.dup, 1) := by decide +kernel
theorem dX12_readTruth_224 : decode cX12_readTruth 224 = .ok (.getfield 513, 3) := by decide +kernel
theorem dX12_readTruth_227 : decode cX12_readTruth 227 = .ok (.iconst 1, 1) := by decide +kernel
theorem dX12_readTruth_228 : decode cX12_readTruth 228 = .ok (.isub, 1) := by decide +kernel
theorem dX12_readTruth_229 : decode cX12_readTruth 229 = .ok (.putfield 513, 3) := by decide +kernel
theorem dX12_readTruth_232 : decode cX12_readTruth 232 = .ok (.aload_n 0, 1) := by decide +kernel
theorem dX12_readTruth_233 : decode cX12_readTruth 233 = .ok (.invokevirtual 523, 3) := by decide +kernel
theorem dX12_readTruth_236 : decode cX12_readTruth 236 = .ok (.goto 5, 3) := by decide +kernel
theorem dX12_readTruth_239 : decode cX12_readTruth 239 = .ok (.iconst 0, 1) := by decide +kernel
theorem dX12_readTruth_240 : decode cX12_readTruth 240 = .ok (.istore_n 2, 1) := by decide +kernel
theorem dX12_readTruth_241 : decode cX12_readTruth 241 = .ok (.goto (-232), 3) := by decide +kernel
theorem dX12_readTruth_244 : decode cX12_readTruth 244 = .ok (.iconst 1, 1) := by decide +kernel
theorem dX12_readTruth_245 : decode cX12_readTruth 245 = .ok (.ireturn, 1) := by decide +kernel
theorem dX12_readPath_0 : decode cX12_readPath 0 = .ok (.aload_n 0, 1) := by decide +kernel
theorem dX12_readPath_1 : decode cX12_readPath 1 = .ok (.getfield 526, 3) := by decide +kernel
theorem dX12_readPath_4 : decode cX12_readPath 4 = .ok (.istore_n 2, 1) := by decide +kernel
theorem dX12_readPath_5 : decode cX12_readPath 5 = .ok (.aload_n 0, 1) := by decide +kernel
theorem dX12_readPath_6 : decode cX12_readPath 6 = .ok (.getfield 529, 3) := by decide +kernel
theorem dX12_readPath_9 : decode cX12_readPath 9 = .ok (.istore_n 3, 1) := by decide +kernel
theorem dX12_readPath_10 : decode cX12_readPath 10 = .ok (.iconst 0, 1) := by decide +kernel
theorem dX12_readPath_11 : decode cX12_readPath 11 = .ok (.istore 4, 2) := by decide +kernel
theorem dX12_readPath_13 : decode cX12_readPath 13 = .ok (.iconst 1, 1) := by decide +kernel
theorem dX12_readPath_14 : decode cX12_readPath 14 = .ok (.istore 5, 2) := by decide +kernel
theorem dX12_readPath_16 : decode cX12_readPath 16 = .ok (.iload 5, 2) := by decide +kernel
theorem dX12_readPath_18 : decode cX12_readPath 18 = .ok (.ifCond .eq 168, 3) := by decide +kernel
theorem dX12_readPath_21 : decode cX12_readPath 21 = .ok (.aload_n 0, 1) := by decide +kernel
theorem dX12_readPath_22 : decode cX12_readPath 22 = .ok (.invokevirtual 319, 3) := by decide +kernel
theorem dX12_readPath_25 : decode cX12_readPath 25 = .ok (.ifCond .ne 8, 3) := by decide +kernel
theorem dX12_readPath_28 : decode cX12_readPath 28 = .ok (.aload_n 0, 1) := by decide +kernel
theorem dX12_readPath_29 : decode cX12_readPath 29 = .ok (.invokevirtual 267, 3) := by decide +kernel
theorem dX12_readPath_32 : decode cX12_readPath 32 = .ok (.ireturn, 1) := by decide +kernel
theorem dX12_readPath_33 : decode cX12_readPath 33 = .ok (.aload_n 0, 1) := by decide +kernel
theorem dX12_readPath_34 : decode cX12_readPath 34 = .ok (.iload_n 2, 1) := by decide +kernel
theorem dX12_readPath_35 : decode cX12_readPath 35 = .ok (.aload_n 0, 1) := by decide +kernel
theorem dX12_readPath_36 : decode cX12_readPath 36 = .ok (.getfield 246, 3) := by decide +kernel
theorem dX12_readPath_39 : decode cX12_readPath 39 = .ok (.invokevirtual 311, 3) := by decide +kernel
theorem dX12_readPath_42 : decode cX12_readPath 42 = .ok (.istore 6, 2) := by decide +kernel
theorem dX12_readPath_44 : decode cX12_readPath 44 = .ok (.aload_n 0, 1) := by decide +kernel
theorem dX12_readPath_45 : decode cX12_readPath 45 = .ok (.getfield 237, 3) := by decide +kernel
theorem dX12_readPath_48 : decode cX12_readPath 48 = .ok (.istore 7, 2) := by decide +kernel
theorem dX12_readPath_50 : decode cX12_readPath 50 = .ok (.iload 6, 2) := by decide +kernel
theorem dX12_readPath_52 : decode cX12_readPath 52 = .ok (.ifCond .ge 9, 3) := by decide +kernel
theorem dX12_readPath_55 : decode cX12_readPath 55 = .ok (.aload_n 0, 1) := by decide +kernel
theorem dX12_readPath_56 : decode cX12_readPath 56 = .ok (.iconst 3, 1) := by decide +kernel
theorem dX12_readPath_57 : decode cX12_readPath 57 = .ok (.invokevirtual 261, 3) := by decide +kernel
theorem dX12_readPath_60 : decode cX12_readPath 60 = .ok (.ireturn, 1) := by decide +kernel
theorem dX12_readPath_61 : decode cX12_readPath 61 = .ok (.bipush 16, 2) := by decide +kernel
theorem dX12_readPath_63 : decode cX12_readPath 63 = .ok (.iload_n 2, 1) := by decide +kernel
theorem dX12_readPath_64 : decode cX12_readPath 64 = .ok (.imul, 1) := by decide +kernel
theorem dX12_readPath_65 : decode cX12_readPath 65 = .ok (.iload 6, 2) := by decide +kernel
theorem dX12_readPath_67 : decode cX12_readPath 67 = .ok (.iadd, 1) := by decide +kernel
theorem dX12_readPath_68 : decode cX12_readPath 68 = .ok (.istore 4, 2) := by decide +kernel
theorem dX12_readPath_70 : decode cX12_readPath 70 = .ok (.aload_n 0, 1) := by decide +kernel
theorem dX12_readPath_71 : decode cX12_readPath 71 = .ok (.getfield 211, 3) := by decide +kernel
theorem dX12_readPath_74 : decode cX12_readPath 74 = .ok (.aload_n 0, 1) := by decide +kernel
theorem dX12_readPath_75 : decode cX12_readPath 75 = .ok (.getfield 529, 3) := by decide +kernel
theorem dX12_readPath_78 : decode cX12_readPath 78 = .ok (.iload 6, 2) := by decide +kernel
theorem dX12_readPath_80 : decode cX12_readPath 80 = .ok (.iastore, 1) := by decide +kernel
theorem dX12_readPath_81 : decode cX12_readPath 81 = .ok (.aload_n 0, 1) := by decide +kernel
theorem dX12_readPath_82 : decode cX12_readPath 82 = .ok (.dup, 1) := by decide +kernel
theorem dX12_readPath_83 : decode cX12_readPath 83 = .ok (.getfield 529, 3) := by decide +kernel
theorem dX12_readPath_86 : decode cX12_readPath 86 = .ok (.iconst 1, 1) := by decide +kernel
theorem dX12_readPath_87 : decode cX12_readPath 87 = .ok (.iadd, 1) := by decide +kernel
theorem dX12_readPath_88 : decode cX12_readPath 88 = .ok (.putfield 529, 3) := by decide +kernel
theorem dX12_readPath_91 : decode cX12_readPath 91 = .ok (.aload_n 0, 1) := by decide +kernel
theorem dX12_readPath_92 : decode cX12_readPath 92 = .ok (.invokevirtual 271, 3) := by decide +kernel
theorem dX12_readPath_95 : decode cX12_readPath 95 = .ok (.aload_n 0, 1) := by decide +kernel
theorem dX12_readPath_96 : decode cX12_readPath 96 = .ok (.bipush 46, 2) := by decide +kernel
theorem dX12_readPath_98 : decode cX12_readPath 98 = .ok (.invokevirtual 264, 3) := by decide +kernel
theorem dX12_readPath_101 : decode cX12_readPath 101 = .ok (.istore 5, 2) := by decide +kernel
theorem dX12_readPath_103 : decode cX12_readPath 103 = .ok (.iload 5, 2) := by decide +kernel
theorem dX12_readPath_105 : decode cX12_readPath 105 = .ok (.ifCond .ne 7, 3) := by decide +kernel
theorem dX12_readPath_108 : decode cX12_readPath 108 = .ok (.iload_n 1, 1) := by decide +kernel
theorem dX12_readPath_109 : decode cX12_readPath 109 = .ok (.ifCond .eq 22, 3) := by decide +kernel
theorem dX12_readPath_112 : decode cX12_readPath 112 = .ok (.aload_n 0, 1) := by decide +kernel
theorem dX12_readPath_113 : decode cX12_readPath 113 = .ok (.getfield 32, 3) := by decide +kernel
theorem dX12_readPath_116 : decode cX12_readPath 116 = .ok (.iload 4, 2) := by decide +kernel
theorem dX12_readPath_118 : decode cX12_readPath 118 = .ok (.iaload, 1) := by decide +kernel
theorem dX12_readPath_119 : decode cX12_readPath 119 = .ok (.iconst 4, 1) := by decide +kernel
theorem dX12_readPath_120 : decode cX12_readPath 120 = .ok (.if_icmp .ne 7, 3) := by decide +kernel
theorem dX12_readPath_123 : decode cX12_readPath 123 = .ok (.iconst 1, 1) := by decide +kernel
theorem dX12_readPath_124 : decode cX12_readPath 124 = .ok (.goto 23, 3) := by decide +kernel
theorem dX12_readPath_127 : decode cX12_readPath 127 = .ok (.iconst 0, 1) := by decide +kernel
theorem dX12_readPath_128 : decode cX12_readPath 128 = .ok (.goto 19, 3) := by decide +kernel
theorem dX12_readPath_131 : decode cX12_readPath 131 = .ok (.aload_n 0, 1) := by decide +kernel
theorem dX12_readPath_132 : decode cX12_readPath 132 = .ok (.getfield 32, 3) := by decide +kernel
theorem dX12_readPath_135 : decode cX12_readPath 135 = .ok (.iload 4, 2) := by decide +kernel
theorem dX12_readPath_137 : decode cX12_readPath 137 = .ok (.iaload, 1) := by decide +kernel
theorem dX12_readPath_138 : decode cX12_readPath 138 = .ok (.iconst 4, 1) := by decide +kernel
theorem dX12_readPath_139 : decode cX12_readPath 139 = .ok (.if_icmp .ge 7, 3) := by decide +kernel
theorem dX12_readPath_142 : decode cX12_readPath 142 = .ok (.iconst 1, 1) := by decide +kernel
theorem dX12_readPath_143 : decode cX12_readPath 143 = .ok (.goto 4, 3) := by decide +kernel
theorem dX12_readPath_146 : decode cX12_readPath 146 = .ok (.iconst 0, 1) := by decide +kernel
theorem dX12_readPath_147 : decode cX12_readPath 147 = .ok (.istore 8, 2) := by decide +kernel
theorem dX12_readPath_149 : decode cX12_readPath 149 = .ok (.iload 8, 2) := by decide +kernel
theorem dX12_readPath_151 : decode cX12_readPath 151 = .ok (.ifCond .ne 15, 3) := by decide +kernel
theorem dX12_readPath_154 : decode cX12_readPath 154 = .ok (.aload_n 0, 1) := by decide +kernel
theorem dX12_readPath_155 : decode cX12_readPath 155 = .ok (.iload 7, 2) := by decide +kernel
theorem dX12_readPath_157 : decode cX12_readPath 157 = .ok (.putfield 237, 3) := by decide +kernel
theorem dX12_readPath_160 : decode cX12_readPath 160 = .ok (.aload_n 0, 1) := by decide +kernel
theorem dX12_readPath_161 : decode cX12_readPath 161 = .ok (.iconst 3, 1) := by decide +kernel
theorem dX12_readPath_162 : decode cX12_readPath 162 = .ok (.invokevirtual 261, 3) := by decide +kernel
theorem dX12_readPath_165 : decode cX12_readPath 165 = .ok (.ireturn, 1) := by decide +kernel
theorem dX12_readPath_166 : decode cX12_readPath 166 = .ok (.iload 5, 2) := by decide +kernel
theorem dX12_readPath_168 : decode cX12_readPath 168 = .ok (.ifCond .eq 15, 3) := by decide +kernel
theorem dX12_readPath_171 : decode cX12_readPath 171 = .ok (.aload_n 0, 1) := by decide +kernel
theorem dX12_readPath_172 : decode cX12_readPath 172 = .ok (.getfield 35, 3) := by decide +kernel
theorem dX12_readPath_175 : decode cX12_readPath 175 = .ok (.iload 4, 2) := by decide +kernel
theorem dX12_readPath_177 : decode cX12_readPath 177 = .ok (.iaload, 1) := by decide +kernel
theorem dX12_readPath_178 : decode cX12_readPath 178 = .ok (.istore_n 2, 1) := by decide +kernel
theorem dX12_readPath_179 : decode cX12_readPath 179 = .ok (.aload_n 0, 1) := by decide +kernel
theorem dX12_readPath_180 : decode cX12_readPath 180 = .ok (.invokevirtual 271, 3) := by decide +kernel
theorem dX12_readPath_183 : decode cX12_readPath 183 = .ok (.goto (-167), 3) := by decide +kernel
theorem dX12_readPath_186 : decode cX12_readPath 186 = .ok (.iload_n 1, 1) := by decide +kernel
theorem dX12_readPath_187 : decode cX12_readPath 187 = .ok (.ifCond .eq 19, 3) := by decide +kernel
theorem dX12_readPath_190 : decode cX12_readPath 190 = .ok (.aload_n 0, 1) := by decide +kernel
theorem dX12_readPath_191 : decode cX12_readPath 191 = .ok (.iconst 1, 1) := by decide +kernel
theorem dX12_readPath_192 : decode cX12_readPath 192 = .ok (.iload_n 3, 1) := by decide +kernel
theorem dX12_readPath_193 : decode cX12_readPath 193 = .ok (.aload_n 0, 1) := by decide +kernel
theorem dX12_readPath_194 : decode cX12_readPath 194 = .ok (.getfield 529, 3) := by decide +kernel
theorem dX12_readPath_197 : decode cX12_readPath 197 = .ok (.iload_n 3, 1) := by decide +kernel
theorem dX12_readPath_198 : decode cX12_readPath 198 = .ok (.isub, 1) := by decide +kernel
theorem dX12_readPath_199 : decode cX12_readPath 199 = .ok (.iconst 0, 1) := by decide +kernel
theorem dX12_readPath_200 : decode cX12_readPath 200 = .ok (.iconst 0, 1) := by decide +kernel
theorem dX12_readPath_201 : decode cX12_readPath 201 = .ok (.invokevirtual 503, 3) := by decide +kernel
theorem dX12_readPath_204 : decode cX12_readPath 204 = .ok (.iconst 1, 1) := by decide +kernel
theorem dX12_readPath_205 : decode cX12_readPath 205 = .ok (.ireturn, 1) := by decide +kernel
theorem dX12_readPath_206 : decode cX12_readPath 206 = .ok (.aload_n 0, 1) := by decide +kernel
theorem dX12_readPath_207 : decode cX12_readPath 207 = .ok (.bipush 61, 2) := by decide +kernel
theorem dX12_readPath_209 : decode cX12_readPath 209 = .ok (.invokevirtual 264, 3) := by decide +kernel
theorem dX12_readPath_212 : decode cX12_readPath 212 = .ok (.ifCond .ne 26, 3) := by decide +kernel
theorem dX12_readPath_215 : decode cX12_readPath 215 = .ok (.aload_n 0, 1) := by decide +kernel
theorem dX12_readPath_216 : decode cX12_readPath 216 = .ok (.bipush 60, 2) := by decide +kernel
theorem dX12_readPath_218 : decode cX12_readPath 218 = .ok (.invokevirtual 264, 3) := by decide +kernel
theorem dX12_readPath_221 : decode cX12_readPath 221 = .ok (.ifCond .ne 17, 3) := by decide +kernel
theorem dX12_readPath_224 : decode cX12_readPath 224 = .ok (.aload_n 0, 1) := by decide +kernel
theorem dX12_readPath_225 : decode cX12_readPath 225 = .ok (.bipush 62, 2) := by decide +kernel
theorem dX12_readPath_227 : decode cX12_readPath 227 = .ok (.invokevirtual 264, 3) := by decide +kernel
theorem dX12_readPath_230 : decode cX12_readPath 230 = .ok (.ifCond .ne 8, 3) := by decide +kernel
theorem dX12_readPath_233 : decode cX12_readPath 233 = .ok (.aload_n 0, 1) := by decide +kernel
theorem dX12_readPath_234 : decode cX12_readPath 234 = .ok (.invokevirtual 267, 3) := by decide +kernel
theorem dX12_readPath_237 : decode cX12_readPath 237 = .ok (.ireturn, 1) := by decide +kernel
theorem dX12_readPath_238 : decode cX12_readPath 238 = .ok (.aload_n 0, 1) := by decide +kernel
theorem dX12_readPath_239 : decode cX12_readPath 239 = .ok (.getfield 252, 3) := by decide +kernel
theorem dX12_readPath_242 : decode cX12_readPath 242 = .ok (.istore 6, 2) := by decide +kernel
theorem dX12_readPath_244 : decode cX12_readPath 244 = .ok (.aload_n 0, 1) := by decide +kernel
theorem dX12_readPath_245 : decode cX12_readPath 245 = .ok (.invokevirtual 271, 3) := by decide +kernel
theorem dX12_readPath_248 : decode cX12_readPath 248 = .ok (.iconst 0, 1) := by decide +kernel
theorem dX12_readPath_249 : decode cX12_readPath 249 = .ok (.istore 7, 2) := by decide +kernel
theorem dX12_readPath_251 : decode cX12_readPath 251 = .ok (.aload_n 0, 1) := by decide +kernel
theorem dX12_readPath_252 : decode cX12_readPath 252 = .ok (.bipush 45, 2) := by decide +kernel
theorem dX12_readPath_254 : decode cX12_readPath 254 = .ok (.invokevirtual 264, 3) := by decide +kernel
theorem dX12_readPath_257 : decode cX12_readPath 257 = .ok (.ifCond .eq 30, 3) := by decide +kernel
theorem dX12_readPath_260 : decode cX12_readPath 260 = .ok (.aload_n 0, 1) := by decide +kernel
theorem dX12_readPath_261 : decode cX12_readPath 261 = .ok (.invokevirtual 271, 3) := by decide +kernel
theorem dX12_readPath_264 : decode cX12_readPath 264 = .ok (.aload_n 0, 1) := by decide +kernel
theorem dX12_readPath_265 : decode cX12_readPath 265 = .ok (.getfield 243, 3) := by decide +kernel
theorem dX12_readPath_268 : decode cX12_readPath 268 = .ok (.iconst 3, 1) := by decide +kernel
theorem dX12_readPath_269 : decode cX12_readPath 269 = .ok (.if_icmp .eq 8, 3) := by decide +kernel
theorem dX12_readPath_272 : decode cX12_readPath 272 = .ok (.aload_n 0, 1) := by decide +kernel
theorem dX12_readPath_273 : decode cX12_readPath 273 = .ok (.invokevirtual 267, 3) := by decide +kernel
theorem dX12_readPath_276 : decode cX12_readPath 276 = .ok (.ireturn, 1) := by decide +kernel
theorem dX12_readPath_277 : decode cX12_readPath 277 = .ok (.aload_n 0, 1) := by decide +kernel
theorem dX12_readPath_278 : decode cX12_readPath 278 = .ok (.getfield 252, 3) := by decide +kernel
theorem dX12_readPath_281 : decode cX12_readPath 281 = .ok (.ineg, 1) := by decide +kernel
theorem dX12_readPath_282 : decode cX12_readPath 282 = .ok (.istore 7, 2) := by decide +kernel
theorem dX12_readPath_284 : decode cX12_readPath 284 = .ok (.goto 103, 3) := by decide +kernel
theorem dX12_readPath_287 : decode cX12_readPath 287 = .ok (.aload_n 0, 1) := by decide +kernel
theorem dX12_readPath_288 : decode cX12_readPath 288 = .ok (.getfield 243, 3) := by decide +kernel
theorem dX12_readPath_291 : decode cX12_readPath 291 = .ok (.iconst 3, 1) := by decide +kernel
theorem dX12_readPath_292 : decode cX12_readPath 292 = .ok (.if_icmp .ne 12, 3) := by decide +kernel
theorem dX12_readPath_295 : decode cX12_readPath 295 = .ok (.aload_n 0, 1) := by decide +kernel
theorem dX12_readPath_296 : decode cX12_readPath 296 = .ok (.getfield 252, 3) := by decide +kernel
theorem dX12_readPath_299 : decode cX12_readPath 299 = .ok (.istore 7, 2) := by decide +kernel
theorem dX12_readPath_301 : decode cX12_readPath 301 = .ok (.goto 86, 3) := by decide +kernel
theorem dX12_readPath_304 : decode cX12_readPath 304 = .ok (.aload_n 0, 1) := by decide +kernel
theorem dX12_readPath_305 : decode cX12_readPath 305 = .ok (.invokevirtual 319, 3) := by decide +kernel
theorem dX12_readPath_308 : decode cX12_readPath 308 = .ok (.ifCond .ne 8, 3) := by decide +kernel
theorem dX12_readPath_311 : decode cX12_readPath 311 = .ok (.aload_n 0, 1) := by decide +kernel
theorem dX12_readPath_312 : decode cX12_readPath 312 = .ok (.invokevirtual 267, 3) := by decide +kernel
theorem dX12_readPath_315 : decode cX12_readPath 315 = .ok (.ireturn, 1) := by decide +kernel
theorem dX12_readPath_316 : decode cX12_readPath 316 = .ok (.iconst (-1), 1) := by decide +kernel
theorem dX12_readPath_317 : decode cX12_readPath 317 = .ok (.istore 8, 2) := by decide +kernel
theorem dX12_readPath_319 : decode cX12_readPath 319 = .ok (.iconst 0, 1) := by decide +kernel
theorem dX12_readPath_320 : decode cX12_readPath 320 = .ok (.istore 9, 2) := by decide +kernel
theorem dX12_readPath_322 : decode cX12_readPath 322 = .ok (.iload 9, 2) := by decide +kernel
theorem dX12_readPath_324 : decode cX12_readPath 324 = .ok (.aload_n 0, 1) := by decide +kernel
theorem dX12_readPath_325 : decode cX12_readPath 325 = .ok (.getfield 41, 3) := by decide +kernel
theorem dX12_readPath_328 : decode cX12_readPath 328 = .ok (.iload 4, 2) := by decide +kernel
theorem dX12_readPath_330 : decode cX12_readPath 330 = .ok (.iaload, 1) := by decide +kernel
theorem dX12_readPath_331 : decode cX12_readPath 331 = .ok (.if_icmp .ge 41, 3) := by decide +kernel
theorem dX12_readPath_334 : decode cX12_readPath 334 = .ok (.aload_n 0, 1) := by decide +kernel
theorem dX12_readPath_335 : decode cX12_readPath 335 = .ok (.getfield 74, 3) := by decide +kernel
theorem dX12_readPath_338 : decode cX12_readPath 338 = .ok (.aload_n 0, 1) := by decide +kernel
theorem dX12_readPath_339 : decode cX12_readPath 339 = .ok (.getfield 38, 3) := by decide +kernel
theorem dX12_readPath_342 : decode cX12_readPath 342 = .ok (.iload 4, 2) := by decide +kernel
theorem dX12_readPath_344 : decode cX12_readPath 344 = .ok (.iaload, 1) := by decide +kernel
theorem dX12_readPath_345 : decode cX12_readPath 345 = .ok (.iload 9, 2) := by decide +kernel
theorem dX12_readPath_347 : decode cX12_readPath 347 = .ok (.iadd, 1) := by decide +kernel
theorem dX12_readPath_348 : decode cX12_readPath 348 = .ok (.laload, 1) := by decide +kernel
theorem dX12_readPath_349 : decode cX12_readPath 349 = .ok (.aload_n 0, 1) := by decide +kernel
theorem dX12_readPath_350 : decode cX12_readPath 350 = .ok (.getfield 246, 3) := by decide +kernel
theorem dX12_readPath_353 : decode cX12_readPath 353 = .ok (.lcmp, 1) := by decide +kernel
theorem dX12_readPath_354 : decode cX12_readPath 354 = .ok (.ifCond .ne 8, 3) := by decide +kernel
theorem dX12_readPath_357 : decode cX12_readPath 357 = .ok (.iload 9, 2) := by decide +kernel
theorem dX12_readPath_359 : decode cX12_readPath 359 = .ok (.goto 5, 3) := by decide +kernel
theorem dX12_readPath_362 : decode cX12_readPath 362 = .ok (.iload 8, 2) := by decide +kernel
theorem dX12_readPath_364 : decode cX12_readPath 364 = .ok (.istore 8, 2) := by decide +kernel
theorem dX12_readPath_366 : decode cX12_readPath 366 = .ok (.iinc 9 1, 3) := by decide +kernel
theorem dX12_readPath_369 : decode cX12_readPath 369 = .ok (.goto (-47), 3) := by decide +kernel
theorem dX12_readPath_372 : decode cX12_readPath 372 = .ok (.iload 8, 2) := by decide +kernel
theorem dX12_readPath_374 : decode cX12_readPath 374 = .ok (.ifCond .ge 9, 3) := by decide +kernel
theorem dX12_readPath_377 : decode cX12_readPath 377 = .ok (.aload_n 0, 1) := by decide +kernel
theorem dX12_readPath_378 : decode cX12_readPath 378 = .ok (.iconst 3, 1) := by decide +kernel
theorem dX12_readPath_379 : decode cX12_readPath 379 = .ok (.invokevirtual 261, 3) := by decide +kernel
theorem dX12_readPath_382 : decode cX12_readPath 382 = .ok (.ireturn, 1) := by decide +kernel
theorem dX12_readPath_383 : decode cX12_readPath 383 = .ok (.iload 8, 2) := by decide +kernel
theorem dX12_readPath_385 : decode cX12_readPath 385 = .ok (.istore 7, 2) := by decide +kernel
theorem dX12_readPath_387 : decode cX12_readPath 387 = .ok (.aload_n 0, 1) := by decide +kernel
theorem dX12_readPath_388 : decode cX12_readPath 388 = .ok (.invokevirtual 271, 3) := by decide +kernel
theorem dX12_readPath_391 : decode cX12_readPath 391 = .ok (.aload_n 0, 1) := by decide +kernel
theorem dX12_readPath_392 : decode cX12_readPath 392 = .ok (.iconst 0, 1) := by decide +kernel
theorem dX12_readPath_393 : decode cX12_readPath 393 = .ok (.iload_n 3, 1) := by decide +kernel
theorem dX12_readPath_394 : decode cX12_readPath 394 = .ok (.aload_n 0, 1) := by decide +kernel
theorem dX12_readPath_395 : decode cX12_readPath 395 = .ok (.getfield 529, 3) := by decide +kernel
theorem dX12_readPath_398 : decode cX12_readPath 398 = .ok (.iload_n 3, 1) := by decide +kernel
theorem dX12_readPath_399 : decode cX12_readPath 399 = .ok (.isub, 1) := by decide +kernel
theorem dX12_readPath_400 : decode cX12_readPath 400 = .ok (.iload 6, 2) := by decide +kernel
theorem dX12_readPath_402 : decode cX12_readPath 402 = .ok (.iload 7, 2) := by decide +kernel
theorem dX12_readPath_404 : decode cX12_readPath 404 = .ok (.invokevirtual 503, 3) := by decide +kernel
theorem dX12_readPath_407 : decode cX12_readPath 407 = .ok (.iconst 1, 1) := by decide +kernel
theorem dX12_readPath_408 : decode cX12_readPath 408 = .ok (.ireturn, 1) := by decide +kernel
theorem dX12_readQuestion_0 : decode cX12_readQuestion 0 = .ok (.aload_n 0, 1) := by decide +kernel
theorem dX12_readQuestion_1 : decode cX12_readQuestion 1 = .ok (.iconst 0, 1) := by decide +kernel
theorem dX12_readQuestion_2 : decode cX12_readQuestion 2 = .ok (.putfield 226, 3) := by decide +kernel
theorem dX12_readQuestion_5 : decode cX12_readQuestion 5 = .ok (.aload_n 0, 1) := by decide +kernel
theorem dX12_readQuestion_6 : decode cX12_readQuestion 6 = .ok (.iconst 0, 1) := by decide +kernel
theorem dX12_readQuestion_7 : decode cX12_readQuestion 7 = .ok (.putfield 497, 3) := by decide +kernel
theorem dX12_readQuestion_10 : decode cX12_readQuestion 10 = .ok (.aload_n 0, 1) := by decide +kernel
theorem dX12_readQuestion_11 : decode cX12_readQuestion 11 = .ok (.iconst 0, 1) := by decide +kernel
theorem dX12_readQuestion_12 : decode cX12_readQuestion 12 = .ok (.putfield 529, 3) := by decide +kernel
theorem dX12_readQuestion_15 : decode cX12_readQuestion 15 = .ok (.aload_n 0, 1) := by decide +kernel
theorem dX12_readQuestion_16 : decode cX12_readQuestion 16 = .ok (.iconst 0, 1) := by decide +kernel
theorem dX12_readQuestion_17 : decode cX12_readQuestion 17 = .ok (.putfield 513, 3) := by decide +kernel
theorem dX12_readQuestion_20 : decode cX12_readQuestion 20 = .ok (.aload_n 0, 1) := by decide +kernel
theorem dX12_readQuestion_21 : decode cX12_readQuestion 21 = .ok (.invokevirtual 271, 3) := by decide +kernel
theorem dX12_readQuestion_24 : decode cX12_readQuestion 24 = .ok (.aload_n 0, 1) := by decide +kernel
theorem dX12_readQuestion_25 : decode cX12_readQuestion 25 = .ok (.invokevirtual 319, 3) := by decide +kernel
theorem dX12_readQuestion_28 : decode cX12_readQuestion 28 = .ok (.ifCond .ne 8, 3) := by decide +kernel
theorem dX12_readQuestion_31 : decode cX12_readQuestion 31 = .ok (.aload_n 0, 1) := by decide +kernel
theorem dX12_readQuestion_32 : decode cX12_readQuestion 32 = .ok (.invokevirtual 267, 3) := by decide +kernel
theorem dX12_readQuestion_35 : decode cX12_readQuestion 35 = .ok (.ireturn, 1) := by decide +kernel
theorem dX12_readQuestion_36 : decode cX12_readQuestion 36 = .ok (.aload_n 0, 1) := by decide +kernel
theorem dX12_readQuestion_37 : decode cX12_readQuestion 37 = .ok (.aload_n 0, 1) := by decide +kernel
theorem dX12_readQuestion_38 : decode cX12_readQuestion 38 = .ok (.iconst 0, 1) := by decide +kernel
theorem dX12_readQuestion_39 : decode cX12_readQuestion 39 = .ok (.aload_n 0, 1) := by decide +kernel
theorem dX12_readQuestion_40 : decode cX12_readQuestion 40 = .ok (.getfield 341, 3) := by decide +kernel
theorem dX12_readQuestion_43 : decode cX12_readQuestion 43 = .ok (.aload_n 0, 1) := by decide +kernel
theorem dX12_readQuestion_44 : decode cX12_readQuestion 44 = .ok (.getfield 246, 3) := by decide +kernel
theorem dX12_readQuestion_47 : decode cX12_readQuestion 47 = .ok (.invokevirtual 303, 3) := by decide +kernel
theorem dX12_readQuestion_50 : decode cX12_readQuestion 50 = .ok (.putfield 526, 3) := by decide +kernel
theorem dX12_readQuestion_53 : decode cX12_readQuestion 53 = .ok (.aload_n 0, 1) := by decide +kernel
theorem dX12_readQuestion_54 : decode cX12_readQuestion 54 = .ok (.getfield 526, 3) := by decide +kernel
theorem dX12_readQuestion_57 : decode cX12_readQuestion 57 = .ok (.ifCond .ge 9, 3) := by decide +kernel
theorem dX12_readQuestion_60 : decode cX12_readQuestion 60 = .ok (.aload_n 0, 1) := by decide +kernel
theorem dX12_readQuestion_61 : decode cX12_readQuestion 61 = .ok (.iconst 3, 1) := by decide +kernel
theorem dX12_readQuestion_62 : decode cX12_readQuestion 62 = .ok (.invokevirtual 261, 3) := by decide +kernel
theorem dX12_readQuestion_65 : decode cX12_readQuestion 65 = .ok (.ireturn, 1) := by decide +kernel
theorem dX12_readQuestion_66 : decode cX12_readQuestion 66 = .ok (.aload_n 0, 1) := by decide +kernel
theorem dX12_readQuestion_67 : decode cX12_readQuestion 67 = .ok (.invokevirtual 271, 3) := by decide +kernel
theorem dX12_readQuestion_70 : decode cX12_readQuestion 70 = .ok (.aload_n 0, 1) := by decide +kernel
theorem dX12_readQuestion_71 : decode cX12_readQuestion 71 = .ok (.invokevirtual 284, 3) := by decide +kernel
theorem dX12_readQuestion_74 : decode cX12_readQuestion 74 = .ok (.bipush 18, 2) := by decide +kernel
theorem dX12_readQuestion_76 : decode cX12_readQuestion 76 = .ok (.if_icmp .ne 16, 3) := by decide +kernel
theorem dX12_readQuestion_79 : decode cX12_readQuestion 79 = .ok (.aload_n 0, 1) := by decide +kernel
theorem dX12_readQuestion_80 : decode cX12_readQuestion 80 = .ok (.invokevirtual 271, 3) := by decide +kernel
theorem dX12_readQuestion_83 : decode cX12_readQuestion 83 = .ok (.aload_n 0, 1) := by decide +kernel
theorem dX12_readQuestion_84 : decode cX12_readQuestion 84 = .ok (.invokevirtual 532, 3) := by decide +kernel
theorem dX12_readQuestion_87 : decode cX12_readQuestion 87 = .ok (.ifCond .ne 5, 3) := by decide +kernel
theorem dX12_readQuestion_90 : decode cX12_readQuestion 90 = .ok (.iconst 0, 1) := by decide +kernel
theorem dX12_readQuestion_91 : decode cX12_readQuestion 91 = .ok (.ireturn, 1) := by decide +kernel
theorem dX12_readQuestion_92 : decode cX12_readQuestion 92 = .ok (.aload_n 0, 1) := by decide +kernel
theorem dX12_readQuestion_93 : decode cX12_readQuestion 93 = .ok (.getfield 243, 3) := by decide +kernel
theorem dX12_readQuestion_96 : decode cX12_readQuestion 96 = .ok (.ifCond .eq 10, 3) := by decide +kernel
theorem dX12_readQuestion_99 : decode cX12_readQuestion 99 = .ok (.aload_n 0, 1) := by decide +kernel
theorem dX12_readQuestion_100 : decode cX12_readQuestion 100 = .ok (.invokevirtual 267, 3) := by decide +kernel
theorem dX12_readQuestion_103 : decode cX12_readQuestion 103 = .ok (.ifCond .eq 7, 3) := by decide +kernel
theorem dX12_readQuestion_106 : decode cX12_readQuestion 106 = .ok (.iconst 1, 1) := by decide +kernel
theorem dX12_readQuestion_107 : decode cX12_readQuestion 107 = .ok (.goto 4, 3) := by decide +kernel
theorem dX12_readQuestion_110 : decode cX12_readQuestion 110 = .ok (.iconst 0, 1) := by decide +kernel
theorem dX12_readQuestion_111 : decode cX12_readQuestion 111 = .ok (.ireturn, 1) := by decide +kernel
theorem dX12_told_0 : decode cX12_told 0 = .ok (.iload_n 1, 1) := by decide +kernel
theorem dX12_told_1 : decode cX12_told 1 = .ok (.istore_n 3, 1) := by decide +kernel
theorem dX12_told_2 : decode cX12_told 2 = .ok (.aload_n 0, 1) := by decide +kernel
theorem dX12_told_3 : decode cX12_told 3 = .ok (.getfield 199, 3) := by decide +kernel
theorem dX12_told_6 : decode cX12_told 6 = .ok (.iload_n 2, 1) := by decide +kernel
theorem dX12_told_7 : decode cX12_told 7 = .ok (.iaload, 1) := by decide +kernel
theorem dX12_told_8 : decode cX12_told 8 = .ok (.aload_n 0, 1) := by decide +kernel
theorem dX12_told_9 : decode cX12_told 9 = .ok (.getfield 202, 3) := by decide +kernel
theorem dX12_told_12 : decode cX12_told 12 = .ok (.iload_n 2, 1) := by decide +kernel
theorem dX12_told_13 : decode cX12_told 13 = .ok (.iaload, 1) := by decide +kernel
theorem dX12_told_14 : decode cX12_told 14 = .ok (.iadd, 1) := by decide +kernel
theorem dX12_told_15 : decode cX12_told 15 = .ok (.iconst 1, 1) := by decide +kernel
theorem dX12_told_16 : decode cX12_told 16 = .ok (.isub, 1) := by decide +kernel
theorem dX12_told_17 : decode cX12_told 17 = .ok (.istore 4, 2) := by decide +kernel
theorem dX12_told_19 : decode cX12_told 19 = .ok (.aload_n 0, 1) := by decide +kernel
theorem dX12_told_20 : decode cX12_told 20 = .ok (.getfield 199, 3) := by decide +kernel
theorem dX12_told_23 : decode cX12_told 23 = .ok (.iload_n 2, 1) := by decide +kernel
theorem dX12_told_24 : decode cX12_told 24 = .ok (.iaload, 1) := by decide +kernel
theorem dX12_told_25 : decode cX12_told 25 = .ok (.istore 5, 2) := by decide +kernel
theorem dX12_told_27 : decode cX12_told 27 = .ok (.iload 5, 2) := by decide +kernel
theorem dX12_told_29 : decode cX12_told 29 = .ok (.iload 4, 2) := by decide +kernel
theorem dX12_told_31 : decode cX12_told 31 = .ok (.if_icmp .ge 68, 3) := by decide +kernel
theorem dX12_told_34 : decode cX12_told 34 = .ok (.aload_n 0, 1) := by decide +kernel
theorem dX12_told_35 : decode cX12_told 35 = .ok (.getfield 89, 3) := by decide +kernel
theorem dX12_told_38 : decode cX12_told 38 = .ok (.bipush 16, 2) := by decide +kernel
theorem dX12_told_40 : decode cX12_told 40 = .ok (.iload_n 3, 1) := by decide +kernel
theorem dX12_told_41 : decode cX12_told 41 = .ok (.imul, 1) := by decide +kernel
theorem dX12_told_42 : decode cX12_told 42 = .ok (.aload_n 0, 1) := by decide +kernel
theorem dX12_told_43 : decode cX12_told 43 = .ok (.getfield 211, 3) := by decide +kernel
theorem dX12_told_46 : decode cX12_told 46 = .ok (.iload 5, 2) := by decide +kernel
theorem dX12_told_48 : decode cX12_told 48 = .ok (.iaload, 1) := by decide +kernel
theorem dX12_told_49 : decode cX12_told 49 = .ok (.iadd, 1) := by decide +kernel
theorem dX12_told_50 : decode cX12_told 50 = .ok (.iaload, 1) := by decide +kernel
theorem dX12_told_51 : decode cX12_told 51 = .ok (.istore 6, 2) := by decide +kernel
theorem dX12_told_53 : decode cX12_told 53 = .ok (.iload 6, 2) := by decide +kernel
theorem dX12_told_55 : decode cX12_told 55 = .ok (.ifCond .ne 5, 3) := by decide +kernel
theorem dX12_told_58 : decode cX12_told 58 = .ok (.iconst 1, 1) := by decide +kernel
theorem dX12_told_59 : decode cX12_told 59 = .ok (.ireturn, 1) := by decide +kernel
theorem dX12_told_60 : decode cX12_told 60 = .ok (.aload_n 0, 1) := by decide +kernel
theorem dX12_told_61 : decode cX12_told 61 = .ok (.aload_n 0, 1) := by decide +kernel
theorem dX12_told_62 : decode cX12_told 62 = .ok (.aload_n 0, 1) := by decide +kernel
theorem dX12_told_63 : decode cX12_told 63 = .ok (.getfield 35, 3) := by decide +kernel
theorem dX12_told_66 : decode cX12_told 66 = .ok (.bipush 16, 2) := by decide +kernel
theorem dX12_told_68 : decode cX12_told 68 = .ok (.aload_n 0, 1) := by decide +kernel
theorem dX12_told_69 : decode cX12_told 69 = .ok (.getfield 83, 3) := by decide +kernel
theorem dX12_told_72 : decode cX12_told 72 = .ok (.iload_n 3, 1) := by decide +kernel
theorem dX12_told_73 : decode cX12_told 73 = .ok (.iaload, 1) := by decide +kernel
theorem dX12_told_74 : decode cX12_told 74 = .ok (.imul, 1) := by decide +kernel
theorem dX12_told_75 : decode cX12_told 75 = .ok (.aload_n 0, 1) := by decide +kernel
theorem dX12_told_76 : decode cX12_told 76 = .ok (.getfield 211, 3) := by decide +kernel
theorem dX12_told_79 : decode cX12_told 79 = .ok (.iload 5, 2) := by decide +kernel
theorem dX12_told_81 : decode cX12_told 81 = .ok (.iaload, 1) := by decide +kernel
theorem dX12_told_82 : decode cX12_told 82 = .ok (.iadd, 1) := by decide +kernel
theorem dX12_told_83 : decode cX12_told 83 = .ok (.iaload, 1) := by decide +kernel
theorem dX12_told_84 : decode cX12_told 84 = .ok (.invokevirtual 353, 3) := by decide +kernel
theorem dX12_told_87 : decode cX12_told 87 = .ok (.iload 6, 2) := by decide +kernel
theorem dX12_told_89 : decode cX12_told 89 = .ok (.invokevirtual 369, 3) := by decide +kernel
theorem dX12_told_92 : decode cX12_told 92 = .ok (.istore_n 3, 1) := by decide +kernel
theorem dX12_told_93 : decode cX12_told 93 = .ok (.iinc 5 1, 3) := by decide +kernel
theorem dX12_told_96 : decode cX12_told 96 = .ok (.goto (-69), 3) := by decide +kernel
theorem dX12_told_99 : decode cX12_told 99 = .ok (.aload_n 0, 1) := by decide +kernel
theorem dX12_told_100 : decode cX12_told 100 = .ok (.getfield 89, 3) := by decide +kernel
theorem dX12_told_103 : decode cX12_told 103 = .ok (.bipush 16, 2) := by decide +kernel
theorem dX12_told_105 : decode cX12_told 105 = .ok (.iload_n 3, 1) := by decide +kernel
theorem dX12_told_106 : decode cX12_told 106 = .ok (.imul, 1) := by decide +kernel
theorem dX12_told_107 : decode cX12_told 107 = .ok (.aload_n 0, 1) := by decide +kernel
theorem dX12_told_108 : decode cX12_told 108 = .ok (.getfield 211, 3) := by decide +kernel
theorem dX12_told_111 : decode cX12_told 111 = .ok (.iload 4, 2) := by decide +kernel
theorem dX12_told_113 : decode cX12_told 113 = .ok (.iaload, 1) := by decide +kernel
theorem dX12_told_114 : decode cX12_told 114 = .ok (.iadd, 1) := by decide +kernel
theorem dX12_told_115 : decode cX12_told 115 = .ok (.iaload, 1) := by decide +kernel
theorem dX12_told_116 : decode cX12_told 116 = .ok (.istore 5, 2) := by decide +kernel
theorem dX12_told_118 : decode cX12_told 118 = .ok (.aload_n 0, 1) := by decide +kernel
theorem dX12_told_119 : decode cX12_told 119 = .ok (.getfield 196, 3) := by decide +kernel
theorem dX12_told_122 : decode cX12_told 122 = .ok (.iload_n 2, 1) := by decide +kernel
theorem dX12_told_123 : decode cX12_told 123 = .ok (.iaload, 1) := by decide +kernel
theorem dX12_told_124 : decode cX12_told 124 = .ok (.iconst 1, 1) := by decide +kernel
theorem dX12_told_125 : decode cX12_told 125 = .ok (.if_icmp .ne 14, 3) := by decide +kernel
theorem dX12_told_128 : decode cX12_told 128 = .ok (.iload 5, 2) := by decide +kernel
theorem dX12_told_130 : decode cX12_told 130 = .ok (.ifCond .ne 7, 3) := by decide +kernel
theorem dX12_told_133 : decode cX12_told 133 = .ok (.iconst 2, 1) := by decide +kernel
theorem dX12_told_134 : decode cX12_told 134 = .ok (.goto 4, 3) := by decide +kernel
theorem dX12_told_137 : decode cX12_told 137 = .ok (.iconst 0, 1) := by decide +kernel
theorem dX12_told_138 : decode cX12_told 138 = .ok (.ireturn, 1) := by decide +kernel
theorem dX12_told_139 : decode cX12_told 139 = .ok (.aload_n 0, 1) := by decide +kernel
theorem dX12_told_140 : decode cX12_told 140 = .ok (.getfield 208, 3) := by decide +kernel
theorem dX12_told_143 : decode cX12_told 143 = .ok (.iload_n 2, 1) := by decide +kernel
theorem dX12_told_144 : decode cX12_told 144 = .ok (.iaload, 1) := by decide +kernel
theorem dX12_told_145 : decode cX12_told 145 = .ok (.istore 6, 2) := by decide +kernel
theorem dX12_told_147 : decode cX12_told 147 = .ok (.aload_n 0, 1) := by decide +kernel
theorem dX12_told_148 : decode cX12_told 148 = .ok (.getfield 205, 3) := by decide +kernel
theorem dX12_told_151 : decode cX12_told 151 = .ok (.iload_n 2, 1) := by decide +kernel
theorem dX12_told_152 : decode cX12_told 152 = .ok (.iaload, 1) := by decide +kernel
theorem dX12_told_153 : decode cX12_told 153 = .ok (.bipush 61, 2) := by decide +kernel
theorem dX12_told_155 : decode cX12_told 155 = .ok (.if_icmp .ne 18, 3) := by decide +kernel
theorem dX12_told_158 : decode cX12_told 158 = .ok (.iload 5, 2) := by decide +kernel
theorem dX12_told_160 : decode cX12_told 160 = .ok (.iload 6, 2) := by decide +kernel
theorem dX12_told_162 : decode cX12_told 162 = .ok (.if_icmp .ne 7, 3) := by decide +kernel
theorem dX12_told_165 : decode cX12_told 165 = .ok (.iconst 1, 1) := by decide +kernel
theorem dX12_told_166 : decode cX12_told 166 = .ok (.goto 45, 3) := by decide +kernel
theorem dX12_told_169 : decode cX12_told 169 = .ok (.iconst 0, 1) := by decide +kernel
theorem dX12_told_170 : decode cX12_told 170 = .ok (.goto 41, 3) := by decide +kernel
theorem dX12_told_173 : decode cX12_told 173 = .ok (.aload_n 0, 1) := by decide +kernel
theorem dX12_told_174 : decode cX12_told 174 = .ok (.getfield 205, 3) := by decide +kernel
theorem dX12_told_177 : decode cX12_told 177 = .ok (.iload_n 2, 1) := by decide +kernel
theorem dX12_told_178 : decode cX12_told 178 = .ok (.iaload, 1) := by decide +kernel
theorem dX12_told_179 : decode cX12_told 179 = .ok (.bipush 60, 2) := by decide +kernel
theorem dX12_told_181 : decode cX12_told 181 = .ok (.if_icmp .ne 18, 3) := by decide +kernel
theorem dX12_told_184 : decode cX12_told 184 = .ok (.iload 5, 2) := by decide +kernel
theorem dX12_told_186 : decode cX12_told 186 = .ok (.iload 6, 2) := by decide +kernel
theorem dX12_told_188 : decode cX12_told 188 = .ok (.if_icmp .ge 7, 3) := by decide +kernel
theorem dX12_told_191 : decode cX12_told 191 = .ok (.iconst 1, 1) := by decide +kernel
theorem dX12_told_192 : decode cX12_told 192 = .ok (.goto 19, 3) := by decide +kernel
theorem dX12_told_195 : decode cX12_told 195 = .ok (.iconst 0, 1) := by decide +kernel
theorem dX12_told_196 : decode cX12_told 196 = .ok (.goto 15, 3) := by decide +kernel
theorem dX12_told_199 : decode cX12_told 199 = .ok (.iload 5, 2) := by decide +kernel
theorem dX12_told_201 : decode cX12_told 201 = .ok (.iload 6, 2) := by decide +kernel
theorem dX12_told_203 : decode cX12_told 203 = .ok (.if_icmp .le 7, 3) := by decide +kernel
theorem dX12_told_206 : decode cX12_told 206 = .ok (.iconst 1, 1) := by decide +kernel
theorem dX12_told_207 : decode cX12_told 207 = .ok (.goto 4, 3) := by decide +kernel
theorem dX12_told_210 : decode cX12_told 210 = .ok (.iconst 0, 1) := by decide +kernel
theorem dX12_told_211 : decode cX12_told 211 = .ok (.istore 7, 2) := by decide +kernel
theorem dX12_told_213 : decode cX12_told 213 = .ok (.iload 7, 2) := by decide +kernel
theorem dX12_told_215 : decode cX12_told 215 = .ok (.ifCond .eq 7, 3) := by decide +kernel
theorem dX12_told_218 : decode cX12_told 218 = .ok (.iconst 2, 1) := by decide +kernel
theorem dX12_told_219 : decode cX12_told 219 = .ok (.goto 4, 3) := by decide +kernel
theorem dX12_told_222 : decode cX12_told 222 = .ok (.iconst 0, 1) := by decide +kernel
theorem dX12_told_223 : decode cX12_told 223 = .ok (.ireturn, 1) := by decide +kernel
theorem dX12_isTold_0 : decode cX12_isTold 0 = .ok (.iconst 0, 1) := by decide +kernel
theorem dX12_isTold_1 : decode cX12_isTold 1 = .ok (.istore_n 2, 1) := by decide +kernel
theorem dX12_isTold_2 : decode cX12_isTold 2 = .ok (.iconst 0, 1) := by decide +kernel
theorem dX12_isTold_3 : decode cX12_isTold 3 = .ok (.istore_n 3, 1) := by decide +kernel
theorem dX12_isTold_4 : decode cX12_isTold 4 = .ok (.iload_n 3, 1) := by decide +kernel
theorem dX12_isTold_5 : decode cX12_isTold 5 = .ok (.aload_n 0, 1) := by decide +kernel
theorem dX12_isTold_6 : decode cX12_isTold 6 = .ok (.getfield 497, 3) := by decide +kernel
theorem dX12_isTold_9 : decode cX12_isTold 9 = .ok (.if_icmp .ge 150, 3) := by decide +kernel
theorem dX12_isTold_12 : decode cX12_isTold 12 = .ok (.aload_n 0, 1) := by decide +kernel
theorem dX12_isTold_13 : decode cX12_isTold 13 = .ok (.getfield 196, 3) := by decide +kernel
theorem dX12_isTold_16 : decode cX12_isTold 16 = .ok (.iload_n 3, 1) := by decide +kernel
theorem dX12_isTold_17 : decode cX12_isTold 17 = .ok (.iaload, 1) := by decide +kernel
theorem dX12_isTold_18 : decode cX12_isTold 18 = .ok (.iconst 2, 1) := by decide +kernel
theorem dX12_isTold_19 : decode cX12_isTold 19 = .ok (.if_icmp .ne 24, 3) := by decide +kernel
theorem dX12_isTold_22 : decode cX12_isTold 22 = .ok (.aload_n 0, 1) := by decide +kernel
theorem dX12_isTold_23 : decode cX12_isTold 23 = .ok (.getfield 220, 3) := by decide +kernel
theorem dX12_isTold_26 : decode cX12_isTold 26 = .ok (.iload_n 2, 1) := by decide +kernel
theorem dX12_isTold_27 : decode cX12_isTold 27 = .ok (.iconst 1, 1) := by decide +kernel
theorem dX12_isTold_28 : decode cX12_isTold 28 = .ok (.isub, 1) := by decide +kernel
theorem dX12_isTold_29 : decode cX12_isTold 29 = .ok (.iconst 2, 1) := by decide +kernel
theorem dX12_isTold_30 : decode cX12_isTold 30 = .ok (.aload_n 0, 1) := by decide +kernel
theorem dX12_isTold_31 : decode cX12_isTold 31 = .ok (.getfield 220, 3) := by decide +kernel
theorem dX12_isTold_34 : decode cX12_isTold 34 = .ok (.iload_n 2, 1) := by decide +kernel
theorem dX12_isTold_35 : decode cX12_isTold 35 = .ok (.iconst 1, 1) := by decide +kernel
theorem dX12_isTold_36 : decode cX12_isTold 36 = .ok (.isub, 1) := by decide +kernel
theorem dX12_isTold_37 : decode cX12_isTold 37 = .ok (.iaload, 1) := by decide +kernel
theorem dX12_isTold_38 : decode cX12_isTold 38 = .ok (.isub, 1) := by decide +kernel
theorem dX12_isTold_39 : decode cX12_isTold 39 = .ok (.iastore, 1) := by decide +kernel
theorem dX12_isTold_40 : decode cX12_isTold 40 = .ok (.goto 113, 3) := by decide +kernel
theorem dX12_isTold_43 : decode cX12_isTold 43 = .ok (.aload_n 0, 1) := by decide +kernel
theorem dX12_isTold_44 : decode cX12_isTold 44 = .ok (.getfield 196, 3) := by decide +kernel
theorem dX12_isTold_47 : decode cX12_isTold 47 = .ok (.iload_n 3, 1) := by decide +kernel
theorem dX12_isTold_48 : decode cX12_isTold 48 = .ok (.iaload, 1) := by decide +kernel
theorem dX12_isTold_49 : decode cX12_isTold 49 = .ok (.iconst 3, 1) := by decide +kernel
theorem dX12_isTold_50 : decode cX12_isTold 50 = .ok (.if_icmp .eq 13, 3) := by decide +kernel
theorem dX12_isTold_53 : decode cX12_isTold 53 = .ok (.aload_n 0, 1) := by decide +kernel
theorem dX12_isTold_54 : decode cX12_isTold 54 = .ok (.getfield 196, 3) := by decide +kernel
theorem dX12_isTold_57 : decode cX12_isTold 57 = .ok (.iload_n 3, 1) := by decide +kernel
theorem dX12_isTold_58 : decode cX12_isTold 58 = .ok (.iaload, 1) := by decide +kernel
theorem dX12_isTold_59 : decode cX12_isTold 59 = .ok (.iconst 4, 1) := by decide +kernel
theorem dX12_isTold_60 : decode cX12_isTold 60 = .ok (.if_icmp .ne 78, 3) := by decide +kernel
theorem dX12_isTold_63 : decode cX12_isTold 63 = .ok (.aload_n 0, 1) := by decide +kernel
theorem dX12_isTold_64 : decode cX12_isTold 64 = .ok (.getfield 220, 3) := by decide +kernel
theorem dX12_isTold_67 : decode cX12_isTold 67 = .ok (.iload_n 2, 1) := by decide +kernel
theorem dX12_isTold_68 : decode cX12_isTold 68 = .ok (.iconst 1, 1) := by decide +kernel
theorem dX12_isTold_69 : decode cX12_isTold 69 = .ok (.isub, 1) := by decide +kernel
theorem dX12_isTold_70 : decode cX12_isTold 70 = .ok (.iaload, 1) := by decide +kernel
theorem dX12_isTold_71 : decode cX12_isTold 71 = .ok (.istore 4, 2) := by decide +kernel
theorem dX12_isTold_73 : decode cX12_isTold 73 = .ok (.aload_n 0, 1) := by decide +kernel
theorem dX12_isTold_74 : decode cX12_isTold 74 = .ok (.getfield 220, 3) := by decide +kernel
theorem dX12_isTold_77 : decode cX12_isTold 77 = .ok (.iload_n 2, 1) := by decide +kernel
theorem dX12_isTold_78 : decode cX12_isTold 78 = .ok (.iconst 2, 1) := by decide +kernel
theorem dX12_isTold_79 : decode cX12_isTold 79 = .ok (.isub, 1) := by decide +kernel
theorem dX12_isTold_80 : decode cX12_isTold 80 = .ok (.iaload, 1) := by decide +kernel
theorem dX12_isTold_81 : decode cX12_isTold 81 = .ok (.istore 5, 2) := by decide +kernel
theorem dX12_isTold_83 : decode cX12_isTold 83 = .ok (.iinc 2 (-1), 3) := by decide +kernel
theorem dX12_isTold_86 : decode cX12_isTold 86 = .ok (.aload_n 0, 1) := by decide +kernel
theorem dX12_isTold_87 : decode cX12_isTold 87 = .ok (.getfield 196, 3) := by decide +kernel
theorem dX12_isTold_90 : decode cX12_isTold 90 = .ok (.iload_n 3, 1) := by decide +kernel
theorem dX12_isTold_91 : decode cX12_isTold 91 = .ok (.iaload, 1) := by decide +kernel
theorem dX12_isTold_92 : decode cX12_isTold 92 = .ok (.iconst 3, 1) := by decide +kernel
theorem dX12_isTold_93 : decode cX12_isTold 93 = .ok (.if_icmp .ne 7, 3) := by decide +kernel
theorem dX12_isTold_96 : decode cX12_isTold 96 = .ok (.iconst 1, 1) := by decide +kernel
theorem dX12_isTold_97 : decode cX12_isTold 97 = .ok (.goto 4, 3) := by decide +kernel
theorem dX12_isTold_100 : decode cX12_isTold 100 = .ok (.iconst 0, 1) := by decide +kernel
theorem dX12_isTold_101 : decode cX12_isTold 101 = .ok (.istore 6, 2) := by decide +kernel
theorem dX12_isTold_103 : decode cX12_isTold 103 = .ok (.aload_n 0, 1) := by decide +kernel
theorem dX12_isTold_104 : decode cX12_isTold 104 = .ok (.getfield 220, 3) := by decide +kernel
theorem dX12_isTold_107 : decode cX12_isTold 107 = .ok (.iload_n 2, 1) := by decide +kernel
theorem dX12_isTold_108 : decode cX12_isTold 108 = .ok (.iconst 1, 1) := by decide +kernel
theorem dX12_isTold_109 : decode cX12_isTold 109 = .ok (.isub, 1) := by decide +kernel
theorem dX12_isTold_110 : decode cX12_isTold 110 = .ok (.iload 4, 2) := by decide +kernel
theorem dX12_isTold_112 : decode cX12_isTold 112 = .ok (.iload 5, 2) := by decide +kernel
theorem dX12_isTold_114 : decode cX12_isTold 114 = .ok (.if_icmp .ge 7, 3) := by decide +kernel
theorem dX12_isTold_117 : decode cX12_isTold 117 = .ok (.iconst 1, 1) := by decide +kernel
theorem dX12_isTold_118 : decode cX12_isTold 118 = .ok (.goto 4, 3) := by decide +kernel
theorem dX12_isTold_121 : decode cX12_isTold 121 = .ok (.iconst 0, 1) := by decide +kernel
theorem dX12_isTold_122 : decode cX12_isTold 122 = .ok (.iload 6, 2) := by decide +kernel
theorem dX12_isTold_124 : decode cX12_isTold 124 = .ok (.if_icmp .ne 8, 3) := by decide +kernel
theorem dX12_isTold_127 : decode cX12_isTold 127 = .ok (.iload 4, 2) := by decide +kernel
theorem dX12_isTold_129 : decode cX12_isTold 129 = .ok (.goto 5, 3) := by decide +kernel
theorem dX12_isTold_132 : decode cX12_isTold 132 = .ok (.iload 5, 2) := by decide +kernel
theorem dX12_isTold_134 : decode cX12_isTold 134 = .ok (.iastore, 1) := by decide +kernel
theorem dX12_isTold_135 : decode cX12_isTold 135 = .ok (.goto 18, 3) := by decide +kernel
theorem dX12_isTold_138 : decode cX12_isTold 138 = .ok (.aload_n 0, 1) := by decide +kernel
theorem dX12_isTold_139 : decode cX12_isTold 139 = .ok (.getfield 220, 3) := by decide +kernel
theorem dX12_isTold_142 : decode cX12_isTold 142 = .ok (.iload_n 2, 1) := by decide +kernel
theorem dX12_isTold_143 : decode cX12_isTold 143 = .ok (.aload_n 0, 1) := by decide +kernel
theorem dX12_isTold_144 : decode cX12_isTold 144 = .ok (.iload_n 1, 1) := by decide +kernel
theorem dX12_isTold_145 : decode cX12_isTold 145 = .ok (.iload_n 3, 1) := by decide +kernel
theorem dX12_isTold_146 : decode cX12_isTold 146 = .ok (.invokevirtual 535, 3) := by decide +kernel
theorem dX12_isTold_149 : decode cX12_isTold 149 = .ok (.iastore, 1) := by decide +kernel
theorem dX12_isTold_150 : decode cX12_isTold 150 = .ok (.iinc 2 1, 3) := by decide +kernel
theorem dX12_isTold_153 : decode cX12_isTold 153 = .ok (.iinc 3 1, 3) := by decide +kernel
theorem dX12_isTold_156 : decode cX12_isTold 156 = .ok (.goto (-152), 3) := by decide +kernel
theorem dX12_isTold_159 : decode cX12_isTold 159 = .ok (.aload_n 0, 1) := by decide +kernel
theorem dX12_isTold_160 : decode cX12_isTold 160 = .ok (.getfield 497, 3) := by decide +kernel
theorem dX12_isTold_163 : decode cX12_isTold 163 = .ok (.ifCond .eq 13, 3) := by decide +kernel
theorem dX12_isTold_166 : decode cX12_isTold 166 = .ok (.aload_n 0, 1) := by decide +kernel
theorem dX12_isTold_167 : decode cX12_isTold 167 = .ok (.getfield 220, 3) := by decide +kernel
theorem dX12_isTold_170 : decode cX12_isTold 170 = .ok (.iconst 0, 1) := by decide +kernel
theorem dX12_isTold_171 : decode cX12_isTold 171 = .ok (.iaload, 1) := by decide +kernel
theorem dX12_isTold_172 : decode cX12_isTold 172 = .ok (.iconst 2, 1) := by decide +kernel
theorem dX12_isTold_173 : decode cX12_isTold 173 = .ok (.if_icmp .ne 7, 3) := by decide +kernel
theorem dX12_isTold_176 : decode cX12_isTold 176 = .ok (.iconst 1, 1) := by decide +kernel
theorem dX12_isTold_177 : decode cX12_isTold 177 = .ok (.goto 4, 3) := by decide +kernel
theorem dX12_isTold_180 : decode cX12_isTold 180 = .ok (.iconst 0, 1) := by decide +kernel
theorem dX12_isTold_181 : decode cX12_isTold 181 = .ok (.ireturn, 1) := by decide +kernel
theorem dX12_ask_0 : decode cX12_ask 0 = .ok (.aload_n 0, 1) := by decide +kernel
theorem dX12_ask_1 : decode cX12_ask 1 = .ok (.iload_n 1, 1) := by decide +kernel
theorem dX12_ask_2 : decode cX12_ask 2 = .ok (.invokevirtual 380, 3) := by decide +kernel
theorem dX12_ask_5 : decode cX12_ask 5 = .ok (.ifCond .ne 5, 3) := by decide +kernel
theorem dX12_ask_8 : decode cX12_ask 8 = .ok (.iconst (-1), 1) := by decide +kernel
theorem dX12_ask_9 : decode cX12_ask 9 = .ok (.ireturn, 1) := by decide +kernel
theorem dX12_ask_10 : decode cX12_ask 10 = .ok (.aload_n 0, 1) := by decide +kernel
theorem dX12_ask_11 : decode cX12_ask 11 = .ok (.iconst 0, 1) := by decide +kernel
theorem dX12_ask_12 : decode cX12_ask 12 = .ok (.putfield 258, 3) := by decide +kernel
theorem dX12_ask_15 : decode cX12_ask 15 = .ok (.aload_n 0, 1) := by decide +kernel
theorem dX12_ask_16 : decode cX12_ask 16 = .ok (.iconst (-1), 1) := by decide +kernel
theorem dX12_ask_17 : decode cX12_ask 17 = .ok (.putfield 141, 3) := by decide +kernel
theorem dX12_ask_20 : decode cX12_ask 20 = .ok (.aload_n 0, 1) := by decide +kernel
theorem dX12_ask_21 : decode cX12_ask 21 = .ok (.invokevirtual 538, 3) := by decide +kernel
theorem dX12_ask_24 : decode cX12_ask 24 = .ok (.istore_n 2, 1) := by decide +kernel
theorem dX12_ask_25 : decode cX12_ask 25 = .ok (.aload_n 0, 1) := by decide +kernel
theorem dX12_ask_26 : decode cX12_ask 26 = .ok (.iconst 0, 1) := by decide +kernel
theorem dX12_ask_27 : decode cX12_ask 27 = .ok (.putfield 223, 3) := by decide +kernel
theorem dX12_ask_30 : decode cX12_ask 30 = .ok (.iload_n 2, 1) := by decide +kernel
theorem dX12_ask_31 : decode cX12_ask 31 = .ok (.ifCond .ne 5, 3) := by decide +kernel
theorem dX12_ask_34 : decode cX12_ask 34 = .ok (.iconst (-1), 1) := by decide +kernel
theorem dX12_ask_35 : decode cX12_ask 35 = .ok (.ireturn, 1) := by decide +kernel
theorem dX12_ask_36 : decode cX12_ask 36 = .ok (.aload_n 0, 1) := by decide +kernel
theorem dX12_ask_37 : decode cX12_ask 37 = .ok (.iload_n 1, 1) := by decide +kernel
theorem dX12_ask_38 : decode cX12_ask 38 = .ok (.invokevirtual 492, 3) := by decide +kernel
theorem dX12_ask_41 : decode cX12_ask 41 = .ok (.istore_n 3, 1) := by decide +kernel
theorem dX12_ask_42 : decode cX12_ask 42 = .ok (.iload_n 3, 1) := by decide +kernel
theorem dX12_ask_43 : decode cX12_ask 43 = .ok (.ifCond .eq 8, 3) := by decide +kernel
theorem dX12_ask_46 : decode cX12_ask 46 = .ok (.bipush (-10), 2) := by decide +kernel
theorem dX12_ask_48 : decode cX12_ask 48 = .ok (.iload_n 3, 1) := by decide +kernel
theorem dX12_ask_49 : decode cX12_ask 49 = .ok (.isub, 1) := by decide +kernel
theorem dX12_ask_50 : decode cX12_ask 50 = .ok (.ireturn, 1) := by decide +kernel
theorem dX12_ask_51 : decode cX12_ask 51 = .ok (.aload_n 0, 1) := by decide +kernel
theorem dX12_ask_52 : decode cX12_ask 52 = .ok (.iconst 0, 1) := by decide +kernel
theorem dX12_ask_53 : decode cX12_ask 53 = .ok (.putfield 421, 3) := by decide +kernel
theorem dX12_ask_56 : decode cX12_ask 56 = .ok (.iconst 0, 1) := by decide +kernel
theorem dX12_ask_57 : decode cX12_ask 57 = .ok (.istore 4, 2) := by decide +kernel
theorem dX12_ask_59 : decode cX12_ask 59 = .ok (.iload 4, 2) := by decide +kernel
theorem dX12_ask_61 : decode cX12_ask 61 = .ok (.aload_n 0, 1) := by decide +kernel
theorem dX12_ask_62 : decode cX12_ask 62 = .ok (.getfield 344, 3) := by decide +kernel
theorem dX12_ask_65 : decode cX12_ask 65 = .ok (.if_icmp .ge 66, 3) := by decide +kernel
theorem dX12_ask_68 : decode cX12_ask 68 = .ok (.aload_n 0, 1) := by decide +kernel
theorem dX12_ask_69 : decode cX12_ask 69 = .ok (.getfield 77, 3) := by decide +kernel
theorem dX12_ask_72 : decode cX12_ask 72 = .ok (.iload 4, 2) := by decide +kernel
theorem dX12_ask_74 : decode cX12_ask 74 = .ok (.iaload, 1) := by decide +kernel
theorem dX12_ask_75 : decode cX12_ask 75 = .ok (.aload_n 0, 1) := by decide +kernel
theorem dX12_ask_76 : decode cX12_ask 76 = .ok (.aload_n 0, 1) := by decide +kernel
theorem dX12_ask_77 : decode cX12_ask 77 = .ok (.getfield 526, 3) := by decide +kernel
theorem dX12_ask_80 : decode cX12_ask 80 = .ok (.invokevirtual 353, 3) := by decide +kernel
theorem dX12_ask_83 : decode cX12_ask 83 = .ok (.if_icmp .ne 42, 3) := by decide +kernel
theorem dX12_ask_86 : decode cX12_ask 86 = .ok (.aload_n 0, 1) := by decide +kernel
theorem dX12_ask_87 : decode cX12_ask 87 = .ok (.iconst 0, 1) := by decide +kernel
theorem dX12_ask_88 : decode cX12_ask 88 = .ok (.aload_n 0, 1) := by decide +kernel
theorem dX12_ask_89 : decode cX12_ask 89 = .ok (.getfield 83, 3) := by decide +kernel
theorem dX12_ask_92 : decode cX12_ask 92 = .ok (.iload 4, 2) := by decide +kernel
theorem dX12_ask_94 : decode cX12_ask 94 = .ok (.iaload, 1) := by decide +kernel
theorem dX12_ask_95 : decode cX12_ask 95 = .ok (.aload_n 0, 1) := by decide +kernel
theorem dX12_ask_96 : decode cX12_ask 96 = .ok (.getfield 526, 3) := by decide +kernel
theorem dX12_ask_99 : decode cX12_ask 99 = .ok (.invokevirtual 315, 3) := by decide +kernel
theorem dX12_ask_102 : decode cX12_ask 102 = .ok (.ifCond .eq 23, 3) := by decide +kernel
theorem dX12_ask_105 : decode cX12_ask 105 = .ok (.aload_n 0, 1) := by decide +kernel
theorem dX12_ask_106 : decode cX12_ask 106 = .ok (.iload 4, 2) := by decide +kernel
theorem dX12_ask_108 : decode cX12_ask 108 = .ok (.invokevirtual 541, 3) := by decide +kernel
theorem dX12_ask_111 : decode cX12_ask 111 = .ok (.ifCond .eq 14, 3) := by decide +kernel
theorem dX12_ask_114 : decode cX12_ask 114 = .ok (.aload_n 0, 1) := by decide +kernel
theorem dX12_ask_115 : decode cX12_ask 115 = .ok (.aload_n 0, 1) := by decide +kernel
theorem dX12_ask_116 : decode cX12_ask 116 = .ok (.getfield 80, 3) := by decide +kernel
theorem dX12_ask_119 : decode cX12_ask 119 = .ok (.iload 4, 2) := by decide +kernel
theorem dX12_ask_121 : decode cX12_ask 121 = .ok (.iaload, 1) := by decide +kernel
theorem dX12_ask_122 : decode cX12_ask 122 = .ok (.invokevirtual 424, 3) := by decide +kernel
theorem dX12_ask_125 : decode cX12_ask 125 = .ok (.iinc 4 1, 3) := by decide +kernel
theorem dX12_ask_128 : decode cX12_ask 128 = .ok (.goto (-69), 3) := by decide +kernel
theorem dX12_ask_131 : decode cX12_ask 131 = .ok (.aload_n 0, 1) := by decide +kernel
theorem dX12_ask_132 : decode cX12_ask 132 = .ok (.aload_n 0, 1) := by decide +kernel
theorem dX12_ask_133 : decode cX12_ask 133 = .ok (.getfield 421, 3) := by decide +kernel
theorem dX12_ask_136 : decode cX12_ask 136 = .ok (.putfield 347, 3) := by decide +kernel
theorem dX12_ask_139 : decode cX12_ask 139 = .ok (.iconst 0, 1) := by decide +kernel
theorem dX12_ask_140 : decode cX12_ask 140 = .ok (.istore 4, 2) := by decide +kernel
theorem dX12_ask_142 : decode cX12_ask 142 = .ok (.iload 4, 2) := by decide +kernel
theorem dX12_ask_144 : decode cX12_ask 144 = .ok (.aload_n 0, 1) := by decide +kernel
theorem dX12_ask_145 : decode cX12_ask 145 = .ok (.getfield 347, 3) := by decide +kernel
theorem dX12_ask_148 : decode cX12_ask 148 = .ok (.if_icmp .ge 23, 3) := by decide +kernel
theorem dX12_ask_151 : decode cX12_ask 151 = .ok (.aload_n 0, 1) := by decide +kernel
theorem dX12_ask_152 : decode cX12_ask 152 = .ok (.getfield 214, 3) := by decide +kernel
theorem dX12_ask_155 : decode cX12_ask 155 = .ok (.iload 4, 2) := by decide +kernel
theorem dX12_ask_157 : decode cX12_ask 157 = .ok (.aload_n 0, 1) := by decide +kernel
theorem dX12_ask_158 : decode cX12_ask 158 = .ok (.getfield 148, 3) := by decide +kernel
theorem dX12_ask_161 : decode cX12_ask 161 = .ok (.iload 4, 2) := by decide +kernel
theorem dX12_ask_163 : decode cX12_ask 163 = .ok (.iaload, 1) := by decide +kernel
theorem dX12_ask_164 : decode cX12_ask 164 = .ok (.iastore, 1) := by decide +kernel
theorem dX12_ask_165 : decode cX12_ask 165 = .ok (.iinc 4 1, 3) := by decide +kernel
theorem dX12_ask_168 : decode cX12_ask 168 = .ok (.goto (-26), 3) := by decide +kernel
theorem dX12_ask_171 : decode cX12_ask 171 = .ok (.aload_n 0, 1) := by decide +kernel
theorem dX12_ask_172 : decode cX12_ask 172 = .ok (.getfield 347, 3) := by decide +kernel
theorem dX12_ask_175 : decode cX12_ask 175 = .ok (.ireturn, 1) := by decide +kernel
theorem dX12_found_0 : decode cX12_found 0 = .ok (.iload_n 1, 1) := by decide +kernel
theorem dX12_found_1 : decode cX12_found 1 = .ok (.ifCond .lt 11, 3) := by decide +kernel
theorem dX12_found_4 : decode cX12_found 4 = .ok (.iload_n 1, 1) := by decide +kernel
theorem dX12_found_5 : decode cX12_found 5 = .ok (.aload_n 0, 1) := by decide +kernel
theorem dX12_found_6 : decode cX12_found 6 = .ok (.getfield 347, 3) := by decide +kernel
theorem dX12_found_9 : decode cX12_found 9 = .ok (.if_icmp .lt 7, 3) := by decide +kernel
theorem dX12_found_12 : decode cX12_found 12 = .ok (.iconst (-1), 1) := by decide +kernel
theorem dX12_found_13 : decode cX12_found 13 = .ok (.goto 9, 3) := by decide +kernel
theorem dX12_found_16 : decode cX12_found 16 = .ok (.aload_n 0, 1) := by decide +kernel
theorem dX12_found_17 : decode cX12_found 17 = .ok (.getfield 214, 3) := by decide +kernel
theorem dX12_found_20 : decode cX12_found 20 = .ok (.iload_n 1, 1) := by decide +kernel
theorem dX12_found_21 : decode cX12_found 21 = .ok (.iaload, 1) := by decide +kernel
theorem dX12_found_22 : decode cX12_found 22 = .ok (.ireturn, 1) := by decide +kernel
theorem dX12_count_0 : decode cX12_count 0 = .ok (.iload_n 1, 1) := by decide +kernel
theorem dX12_count_1 : decode cX12_count 1 = .ok (.tableswitch 97 0 2 #[27, 32, 92], 27) := by decide +kernel
theorem dX12_count_28 : decode cX12_count 28 = .ok (.aload_n 0, 1) := by decide +kernel
theorem dX12_count_29 : decode cX12_count 29 = .ok (.getfield 341, 3) := by decide +kernel
theorem dX12_count_32 : decode cX12_count 32 = .ok (.ireturn, 1) := by decide +kernel
theorem dX12_count_33 : decode cX12_count 33 = .ok (.aload_n 0, 1) := by decide +kernel
theorem dX12_count_34 : decode cX12_count 34 = .ok (.getfield 110, 3) := by decide +kernel
theorem dX12_count_37 : decode cX12_count 37 = .ok (.iconst 0, 1) := by decide +kernel
theorem dX12_count_38 : decode cX12_count 38 = .ok (.baload, 1) := by decide +kernel
theorem dX12_count_39 : decode cX12_count 39 = .ok (.ifCond .eq 7, 3) := by decide +kernel
theorem dX12_count_42 : decode cX12_count 42 = .ok (.iconst 1, 1) := by decide +kernel
theorem dX12_count_43 : decode cX12_count 43 = .ok (.goto 4, 3) := by decide +kernel
theorem dX12_count_46 : decode cX12_count 46 = .ok (.iconst 0, 1) := by decide +kernel
theorem dX12_count_47 : decode cX12_count 47 = .ok (.aload_n 0, 1) := by decide +kernel
theorem dX12_count_48 : decode cX12_count 48 = .ok (.getfield 110, 3) := by decide +kernel
theorem dX12_count_51 : decode cX12_count 51 = .ok (.iconst 1, 1) := by decide +kernel
theorem dX12_count_52 : decode cX12_count 52 = .ok (.baload, 1) := by decide +kernel
theorem dX12_count_53 : decode cX12_count 53 = .ok (.ifCond .eq 7, 3) := by decide +kernel
theorem dX12_count_56 : decode cX12_count 56 = .ok (.iconst 1, 1) := by decide +kernel
theorem dX12_count_57 : decode cX12_count 57 = .ok (.goto 4, 3) := by decide +kernel
theorem dX12_count_60 : decode cX12_count 60 = .ok (.iconst 0, 1) := by decide +kernel
theorem dX12_count_61 : decode cX12_count 61 = .ok (.iadd, 1) := by decide +kernel
theorem dX12_count_62 : decode cX12_count 62 = .ok (.aload_n 0, 1) := by decide +kernel
theorem dX12_count_63 : decode cX12_count 63 = .ok (.getfield 110, 3) := by decide +kernel
theorem dX12_count_66 : decode cX12_count 66 = .ok (.iconst 2, 1) := by decide +kernel
theorem dX12_count_67 : decode cX12_count 67 = .ok (.baload, 1) := by decide +kernel
theorem dX12_count_68 : decode cX12_count 68 = .ok (.ifCond .eq 7, 3) := by decide +kernel
theorem dX12_count_71 : decode cX12_count 71 = .ok (.iconst 1, 1) := by decide +kernel
theorem dX12_count_72 : decode cX12_count 72 = .ok (.goto 4, 3) := by decide +kernel
theorem dX12_count_75 : decode cX12_count 75 = .ok (.iconst 0, 1) := by decide +kernel
theorem dX12_count_76 : decode cX12_count 76 = .ok (.iadd, 1) := by decide +kernel
theorem dX12_count_77 : decode cX12_count 77 = .ok (.aload_n 0, 1) := by decide +kernel
theorem dX12_count_78 : decode cX12_count 78 = .ok (.getfield 110, 3) := by decide +kernel
theorem dX12_count_81 : decode cX12_count 81 = .ok (.iconst 3, 1) := by decide +kernel
theorem dX12_count_82 : decode cX12_count 82 = .ok (.baload, 1) := by decide +kernel
theorem dX12_count_83 : decode cX12_count 83 = .ok (.ifCond .eq 7, 3) := by decide +kernel
theorem dX12_count_86 : decode cX12_count 86 = .ok (.iconst 1, 1) := by decide +kernel
theorem dX12_count_87 : decode cX12_count 87 = .ok (.goto 4, 3) := by decide +kernel
theorem dX12_count_90 : decode cX12_count 90 = .ok (.iconst 0, 1) := by decide +kernel
theorem dX12_count_91 : decode cX12_count 91 = .ok (.iadd, 1) := by decide +kernel
theorem dX12_count_92 : decode cX12_count 92 = .ok (.ireturn, 1) := by decide +kernel
theorem dX12_count_93 : decode cX12_count 93 = .ok (.aload_n 0, 1) := by decide +kernel
theorem dX12_count_94 : decode cX12_count 94 = .ok (.getfield 344, 3) := by decide +kernel
theorem dX12_count_97 : decode cX12_count 97 = .ok (.ireturn, 1) := by decide +kernel
theorem dX12_count_98 : decode cX12_count 98 = .ok (.iconst (-1), 1) := by decide +kernel
theorem dX12_count_99 : decode cX12_count 99 = .ok (.ireturn, 1) := by decide +kernel
theorem dL_law_0 : decode cL_law 0 = .ok (.new 7, 3) := by decide +kernel
theorem dL_law_3 : decode cL_law 3 = .ok (.dup, 1) := by decide +kernel
theorem dL_law_4 : decode cL_law 4 = .ok (.invokespecial 9, 3) := by decide +kernel
theorem dL_law_7 : decode cL_law 7 = .ok (.astore_n 1, 1) := by decide +kernel
theorem dL_law_8 : decode cL_law 8 = .ok (.new 10, 3) := by decide +kernel
theorem dL_law_11 : decode cL_law 11 = .ok (.dup, 1) := by decide +kernel
theorem dL_law_12 : decode cL_law 12 = .ok (.invokespecial 12, 3) := by decide +kernel
theorem dL_law_15 : decode cL_law 15 = .ok (.astore_n 2, 1) := by decide +kernel
theorem dL_law_16 : decode cL_law 16 = .ok (.iconst 0, 1) := by decide +kernel
theorem dL_law_17 : decode cL_law 17 = .ok (.istore_n 3, 1) := by decide +kernel
theorem dL_law_18 : decode cL_law 18 = .ok (.iload_n 3, 1) := by decide +kernel
theorem dL_law_19 : decode cL_law 19 = .ok (.aload_n 0, 1) := by decide +kernel
theorem dL_law_20 : decode cL_law 20 = .ok (.arraylength, 1) := by decide +kernel
theorem dL_law_21 : decode cL_law 21 = .ok (.bipush 6, 2) := by decide +kernel
theorem dL_law_23 : decode cL_law 23 = .ok (.isub, 1) := by decide +kernel
theorem dL_law_24 : decode cL_law 24 = .ok (.if_icmp .gt 974, 3) := by decide +kernel
theorem dL_law_27 : decode cL_law 27 = .ok (.aload_n 0, 1) := by decide +kernel
theorem dL_law_28 : decode cL_law 28 = .ok (.iload_n 3, 1) := by decide +kernel
theorem dL_law_29 : decode cL_law 29 = .ok (.iaload, 1) := by decide +kernel
theorem dL_law_30 : decode cL_law 30 = .ok (.bipush 31, 2) := by decide +kernel
theorem dL_law_32 : decode cL_law 32 = .ok (.iand, 1) := by decide +kernel
theorem dL_law_33 : decode cL_law 33 = .ok (.tableswitch 959 0 25 #[119, 182, 205, 218, 241, 274, 317, 330, 363, 386, 409, 442, 475, 518, 551, 585, 628, 671, 704, 747, 770, 793, 846, 890, 913, 936], 119) := by decide +kernel
theorem dL_law_152 : decode cL_law 152 = .ok (.aload_n 1, 1) := by decide +kernel
theorem dL_law_153 : decode cL_law 153 = .ok (.aload_n 0, 1) := by decide +kernel
theorem dL_law_154 : decode cL_law 154 = .ok (.iload_n 3, 1) := by decide +kernel
theorem dL_law_155 : decode cL_law 155 = .ok (.iconst 1, 1) := by decide +kernel
theorem dL_law_156 : decode cL_law 156 = .ok (.iadd, 1) := by decide +kernel
theorem dL_law_157 : decode cL_law 157 = .ok (.iaload, 1) := by decide +kernel
theorem dL_law_158 : decode cL_law 158 = .ok (.aload_n 0, 1) := by decide +kernel
theorem dL_law_159 : decode cL_law 159 = .ok (.iload_n 3, 1) := by decide +kernel
theorem dL_law_160 : decode cL_law 160 = .ok (.iconst 2, 1) := by decide +kernel
theorem dL_law_161 : decode cL_law 161 = .ok (.iadd, 1) := by decide +kernel
theorem dL_law_162 : decode cL_law 162 = .ok (.iaload, 1) := by decide +kernel
theorem dL_law_163 : decode cL_law 163 = .ok (.aload_n 0, 1) := by decide +kernel
theorem dL_law_164 : decode cL_law 164 = .ok (.iload_n 3, 1) := by decide +kernel
theorem dL_law_165 : decode cL_law 165 = .ok (.iconst 3, 1) := by decide +kernel
theorem dL_law_166 : decode cL_law 166 = .ok (.iadd, 1) := by decide +kernel
theorem dL_law_167 : decode cL_law 167 = .ok (.iaload, 1) := by decide +kernel
theorem dL_law_168 : decode cL_law 168 = .ok (.aload_n 0, 1) := by decide +kernel
theorem dL_law_169 : decode cL_law 169 = .ok (.iload_n 3, 1) := by decide +kernel
theorem dL_law_170 : decode cL_law 170 = .ok (.iconst 4, 1) := by decide +kernel
theorem dL_law_171 : decode cL_law 171 = .ok (.iadd, 1) := by decide +kernel
theorem dL_law_172 : decode cL_law 172 = .ok (.iaload, 1) := by decide +kernel
theorem dL_law_173 : decode cL_law 173 = .ok (.aload_n 0, 1) := by decide +kernel
theorem dL_law_174 : decode cL_law 174 = .ok (.iload_n 3, 1) := by decide +kernel
theorem dL_law_175 : decode cL_law 175 = .ok (.iconst 5, 1) := by decide +kernel
theorem dL_law_176 : decode cL_law 176 = .ok (.iadd, 1) := by decide +kernel
theorem dL_law_177 : decode cL_law 177 = .ok (.iaload, 1) := by decide +kernel
theorem dL_law_178 : decode cL_law 178 = .ok (.invokevirtual 13, 3) := by decide +kernel
theorem dL_law_181 : decode cL_law 181 = .ok (.aload_n 2, 1) := by decide +kernel
theorem dL_law_182 : decode cL_law 182 = .ok (.aload_n 0, 1) := by decide +kernel
theorem dL_law_183 : decode cL_law 183 = .ok (.iload_n 3, 1) := by decide +kernel
theorem dL_law_184 : decode cL_law 184 = .ok (.iconst 1, 1) := by decide +kernel
theorem dL_law_185 : decode cL_law 185 = .ok (.iadd, 1) := by decide +kernel
theorem dL_law_186 : decode cL_law 186 = .ok (.iaload, 1) := by decide +kernel
theorem dL_law_187 : decode cL_law 187 = .ok (.aload_n 0, 1) := by decide +kernel
theorem dL_law_188 : decode cL_law 188 = .ok (.iload_n 3, 1) := by decide +kernel
theorem dL_law_189 : decode cL_law 189 = .ok (.iconst 2, 1) := by decide +kernel
theorem dL_law_190 : decode cL_law 190 = .ok (.iadd, 1) := by decide +kernel
theorem dL_law_191 : decode cL_law 191 = .ok (.iaload, 1) := by decide +kernel
theorem dL_law_192 : decode cL_law 192 = .ok (.aload_n 0, 1) := by decide +kernel
theorem dL_law_193 : decode cL_law 193 = .ok (.iload_n 3, 1) := by decide +kernel
theorem dL_law_194 : decode cL_law 194 = .ok (.iconst 3, 1) := by decide +kernel
theorem dL_law_195 : decode cL_law 195 = .ok (.iadd, 1) := by decide +kernel
theorem dL_law_196 : decode cL_law 196 = .ok (.iaload, 1) := by decide +kernel
theorem dL_law_197 : decode cL_law 197 = .ok (.aload_n 0, 1) := by decide +kernel
theorem dL_law_198 : decode cL_law 198 = .ok (.iload_n 3, 1) := by decide +kernel
theorem dL_law_199 : decode cL_law 199 = .ok (.iconst 4, 1) := by decide +kernel
theorem dL_law_200 : decode cL_law 200 = .ok (.iadd, 1) := by decide +kernel
theorem dL_law_201 : decode cL_law 201 = .ok (.iaload, 1) := by decide +kernel
theorem dL_law_202 : decode cL_law 202 = .ok (.aload_n 0, 1) := by decide +kernel
theorem dL_law_203 : decode cL_law 203 = .ok (.iload_n 3, 1) := by decide +kernel
theorem dL_law_204 : decode cL_law 204 = .ok (.iconst 5, 1) := by decide +kernel
theorem dL_law_205 : decode cL_law 205 = .ok (.iadd, 1) := by decide +kernel
theorem dL_law_206 : decode cL_law 206 = .ok (.iaload, 1) := by decide +kernel
theorem dL_law_207 : decode cL_law 207 = .ok (.invokevirtual 17, 3) := by decide +kernel
theorem dL_law_210 : decode cL_law 210 = .ok (.if_icmp .eq 782, 3) := by decide +kernel
theorem dL_law_213 : decode cL_law 213 = .ok (.iconst 0, 1) := by decide +kernel
theorem dL_law_214 : decode cL_law 214 = .ok (.ireturn, 1) := by decide +kernel
theorem dL_law_215 : decode cL_law 215 = .ok (.aload_n 1, 1) := by decide +kernel
theorem dL_law_216 : decode cL_law 216 = .ok (.aload_n 0, 1) := by decide +kernel
theorem dL_law_217 : decode cL_law 217 = .ok (.iload_n 3, 1) := by decide +kernel
theorem dL_law_218 : decode cL_law 218 = .ok (.iconst 1, 1) := by decide +kernel
theorem dL_law_219 : decode cL_law 219 = .ok (.iadd, 1) := by decide +kernel
theorem dL_law_220 : decode cL_law 220 = .ok (.iaload, 1) := by decide +kernel
theorem dL_law_221 : decode cL_law 221 = .ok (.invokevirtual 18, 3) := by decide +kernel
theorem dL_law_224 : decode cL_law 224 = .ok (.aload_n 2, 1) := by decide +kernel
theorem dL_law_225 : decode cL_law 225 = .ok (.aload_n 0, 1) := by decide +kernel
theorem dL_law_226 : decode cL_law 226 = .ok (.iload_n 3, 1) := by decide +kernel
theorem dL_law_227 : decode cL_law 227 = .ok (.iconst 1, 1) := by decide +kernel
theorem dL_law_228 : decode cL_law 228 = .ok (.iadd, 1) := by decide +kernel
theorem dL_law_229 : decode cL_law 229 = .ok (.iaload, 1) := by decide +kernel
theorem dL_law_230 : decode cL_law 230 = .ok (.invokevirtual 22, 3) := by decide +kernel
theorem dL_law_233 : decode cL_law 233 = .ok (.if_icmp .eq 759, 3) := by decide +kernel
theorem dL_law_236 : decode cL_law 236 = .ok (.iconst 0, 1) := by decide +kernel
theorem dL_law_237 : decode cL_law 237 = .ok (.ireturn, 1) := by decide +kernel
theorem dL_law_238 : decode cL_law 238 = .ok (.aload_n 1, 1) := by decide +kernel
theorem dL_law_239 : decode cL_law 239 = .ok (.invokevirtual 23, 3) := by decide +kernel
theorem dL_law_242 : decode cL_law 242 = .ok (.aload_n 2, 1) := by decide +kernel
theorem dL_law_243 : decode cL_law 243 = .ok (.invokevirtual 27, 3) := by decide +kernel
theorem dL_law_246 : decode cL_law 246 = .ok (.if_icmp .eq 746, 3) := by decide +kernel
theorem dL_law_249 : decode cL_law 249 = .ok (.iconst 0, 1) := by decide +kernel
theorem dL_law_250 : decode cL_law 250 = .ok (.ireturn, 1) := by decide +kernel
theorem dL_law_251 : decode cL_law 251 = .ok (.aload_n 1, 1) := by decide +kernel
theorem dL_law_252 : decode cL_law 252 = .ok (.aload_n 0, 1) := by decide +kernel
theorem dL_law_253 : decode cL_law 253 = .ok (.iload_n 3, 1) := by decide +kernel
theorem dL_law_254 : decode cL_law 254 = .ok (.iconst 1, 1) := by decide +kernel
theorem dL_law_255 : decode cL_law 255 = .ok (.iadd, 1) := by decide +kernel
theorem dL_law_256 : decode cL_law 256 = .ok (.iaload, 1) := by decide +kernel
theorem dL_law_257 : decode cL_law 257 = .ok (.invokevirtual 28, 3) := by decide +kernel
theorem dL_law_260 : decode cL_law 260 = .ok (.aload_n 2, 1) := by decide +kernel
theorem dL_law_261 : decode cL_law 261 = .ok (.aload_n 0, 1) := by decide +kernel
theorem dL_law_262 : decode cL_law 262 = .ok (.iload_n 3, 1) := by decide +kernel
theorem dL_law_263 : decode cL_law 263 = .ok (.iconst 1, 1) := by decide +kernel
theorem dL_law_264 : decode cL_law 264 = .ok (.iadd, 1) := by decide +kernel
theorem dL_law_265 : decode cL_law 265 = .ok (.iaload, 1) := by decide +kernel
theorem dL_law_266 : decode cL_law 266 = .ok (.invokevirtual 31, 3) := by decide +kernel
theorem dL_law_269 : decode cL_law 269 = .ok (.if_icmp .eq 723, 3) := by decide +kernel
theorem dL_law_272 : decode cL_law 272 = .ok (.iconst 0, 1) := by decide +kernel
theorem dL_law_273 : decode cL_law 273 = .ok (.ireturn, 1) := by decide +kernel
theorem dL_law_274 : decode cL_law 274 = .ok (.aload_n 1, 1) := by decide +kernel
theorem dL_law_275 : decode cL_law 275 = .ok (.aload_n 0, 1) := by decide +kernel
theorem dL_law_276 : decode cL_law 276 = .ok (.iload_n 3, 1) := by decide +kernel
theorem dL_law_277 : decode cL_law 277 = .ok (.iconst 1, 1) := by decide +kernel
theorem dL_law_278 : decode cL_law 278 = .ok (.iadd, 1) := by decide +kernel
theorem dL_law_279 : decode cL_law 279 = .ok (.iaload, 1) := by decide +kernel
theorem dL_law_280 : decode cL_law 280 = .ok (.aload_n 0, 1) := by decide +kernel
theorem dL_law_281 : decode cL_law 281 = .ok (.iload_n 3, 1) := by decide +kernel
theorem dL_law_282 : decode cL_law 282 = .ok (.iconst 2, 1) := by decide +kernel
theorem dL_law_283 : decode cL_law 283 = .ok (.iadd, 1) := by decide +kernel
theorem dL_law_284 : decode cL_law 284 = .ok (.iaload, 1) := by decide +kernel
theorem dL_law_285 : decode cL_law 285 = .ok (.invokevirtual 32, 3) := by decide +kernel
theorem dL_law_288 : decode cL_law 288 = .ok (.aload_n 2, 1) := by decide +kernel
theorem dL_law_289 : decode cL_law 289 = .ok (.aload_n 0, 1) := by decide +kernel
theorem dL_law_290 : decode cL_law 290 = .ok (.iload_n 3, 1) := by decide +kernel
theorem dL_law_291 : decode cL_law 291 = .ok (.iconst 1, 1) := by decide +kernel
theorem dL_law_292 : decode cL_law 292 = .ok (.iadd, 1) := by decide +kernel
theorem dL_law_293 : decode cL_law 293 = .ok (.iaload, 1) := by decide +kernel
theorem dL_law_294 : decode cL_law 294 = .ok (.aload_n 0, 1) := by decide +kernel
theorem dL_law_295 : decode cL_law 295 = .ok (.iload_n 3, 1) := by decide +kernel
theorem dL_law_296 : decode cL_law 296 = .ok (.iconst 2, 1) := by decide +kernel
theorem dL_law_297 : decode cL_law 297 = .ok (.iadd, 1) := by decide +kernel
theorem dL_law_298 : decode cL_law 298 = .ok (.iaload, 1) := by decide +kernel
theorem dL_law_299 : decode cL_law 299 = .ok (.invokevirtual 36, 3) := by decide +kernel
theorem dL_law_302 : decode cL_law 302 = .ok (.if_icmp .eq 690, 3) := by decide +kernel
theorem dL_law_305 : decode cL_law 305 = .ok (.iconst 0, 1) := by decide +kernel
theorem dL_law_306 : decode cL_law 306 = .ok (.ireturn, 1) := by decide +kernel
theorem dL_law_307 : decode cL_law 307 = .ok (.aload_n 1, 1) := by decide +kernel
theorem dL_law_308 : decode cL_law 308 = .ok (.aload_n 0, 1) := by decide +kernel
theorem dL_law_309 : decode cL_law 309 = .ok (.iload_n 3, 1) := by decide +kernel
theorem dL_law_310 : decode cL_law 310 = .ok (.iconst 1, 1) := by decide +kernel
theorem dL_law_311 : decode cL_law 311 = .ok (.iadd, 1) := by decide +kernel
theorem dL_law_312 : decode cL_law 312 = .ok (.iaload, 1) := by decide +kernel
theorem dL_law_313 : decode cL_law 313 = .ok (.aload_n 0, 1) := by decide +kernel
theorem dL_law_314 : decode cL_law 314 = .ok (.iload_n 3, 1) := by decide +kernel
theorem dL_law_315 : decode cL_law 315 = .ok (.iconst 2, 1) := by decide +kernel
theorem dL_law_316 : decode cL_law 316 = .ok (.iadd, 1) := by decide +kernel
theorem dL_law_317 : decode cL_law 317 = .ok (.iaload, 1) := by decide +kernel
theorem dL_law_318 : decode cL_law 318 = .ok (.aload_n 0, 1) := by decide +kernel
theorem dL_law_319 : decode cL_law 319 = .ok (.iload_n 3, 1) := by decide +kernel
theorem dL_law_320 : decode cL_law 320 = .ok (.iconst 3, 1) := by decide +kernel
theorem dL_law_321 : decode cL_law 321 = .ok (.iadd, 1) := by decide +kernel
theorem dL_law_322 : decode cL_law 322 = .ok (.iaload, 1) := by decide +kernel
theorem dL_law_323 : decode cL_law 323 = .ok (.invokevirtual 37, 3) := by decide +kernel
theorem dL_law_326 : decode cL_law 326 = .ok (.aload_n 2, 1) := by decide +kernel
theorem dL_law_327 : decode cL_law 327 = .ok (.aload_n 0, 1) := by decide +kernel
theorem dL_law_328 : decode cL_law 328 = .ok (.iload_n 3, 1) := by decide +kernel
theorem dL_law_329 : decode cL_law 329 = .ok (.iconst 1, 1) := by decide +kernel
theorem dL_law_330 : decode cL_law 330 = .ok (.iadd, 1) := by decide +kernel
theorem dL_law_331 : decode cL_law 331 = .ok (.iaload, 1) := by decide +kernel
theorem dL_law_332 : decode cL_law 332 = .ok (.aload_n 0, 1) := by decide +kernel
theorem dL_law_333 : decode cL_law 333 = .ok (.iload_n 3, 1) := by decide +kernel
theorem dL_law_334 : decode cL_law 334 = .ok (.iconst 2, 1) := by decide +kernel
theorem dL_law_335 : decode cL_law 335 = .ok (.iadd, 1) := by decide +kernel
theorem dL_law_336 : decode cL_law 336 = .ok (.iaload, 1) := by decide +kernel
theorem dL_law_337 : decode cL_law 337 = .ok (.aload_n 0, 1) := by decide +kernel
theorem dL_law_338 : decode cL_law 338 = .ok (.iload_n 3, 1) := by decide +kernel
theorem dL_law_339 : decode cL_law 339 = .ok (.iconst 3, 1) := by decide +kernel
theorem dL_law_340 : decode cL_law 340 = .ok (.iadd, 1) := by decide +kernel
theorem dL_law_341 : decode cL_law 341 = .ok (.iaload, 1) := by decide +kernel
theorem dL_law_342 : decode cL_law 342 = .ok (.invokevirtual 41, 3) := by decide +kernel
theorem dL_law_345 : decode cL_law 345 = .ok (.if_icmp .eq 647, 3) := by decide +kernel
theorem dL_law_348 : decode cL_law 348 = .ok (.iconst 0, 1) := by decide +kernel
theorem dL_law_349 : decode cL_law 349 = .ok (.ireturn, 1) := by decide +kernel
theorem dL_law_350 : decode cL_law 350 = .ok (.aload_n 1, 1) := by decide +kernel
theorem dL_law_351 : decode cL_law 351 = .ok (.invokevirtual 42, 3) := by decide +kernel
theorem dL_law_354 : decode cL_law 354 = .ok (.aload_n 2, 1) := by decide +kernel
theorem dL_law_355 : decode cL_law 355 = .ok (.invokevirtual 45, 3) := by decide +kernel
theorem dL_law_358 : decode cL_law 358 = .ok (.if_icmp .eq 634, 3) := by decide +kernel
theorem dL_law_361 : decode cL_law 361 = .ok (.iconst 0, 1) := by decide +kernel
theorem dL_law_362 : decode cL_law 362 = .ok (.ireturn, 1) := by decide +kernel
theorem dL_law_363 : decode cL_law 363 = .ok (.aload_n 1, 1) := by decide +kernel
theorem dL_law_364 : decode cL_law 364 = .ok (.aload_n 0, 1) := by decide +kernel
theorem dL_law_365 : decode cL_law 365 = .ok (.iload_n 3, 1) := by decide +kernel
theorem dL_law_366 : decode cL_law 366 = .ok (.iconst 1, 1) := by decide +kernel
theorem dL_law_367 : decode cL_law 367 = .ok (.iadd, 1) := by decide +kernel
theorem dL_law_368 : decode cL_law 368 = .ok (.iaload, 1) := by decide +kernel
theorem dL_law_369 : decode cL_law 369 = .ok (.aload_n 0, 1) := by decide +kernel
theorem dL_law_370 : decode cL_law 370 = .ok (.iload_n 3, 1) := by decide +kernel
theorem dL_law_371 : decode cL_law 371 = .ok (.iconst 2, 1) := by decide +kernel
theorem dL_law_372 : decode cL_law 372 = .ok (.iadd, 1) := by decide +kernel
theorem dL_law_373 : decode cL_law 373 = .ok (.iaload, 1) := by decide +kernel
theorem dL_law_374 : decode cL_law 374 = .ok (.invokevirtual 46, 3) := by decide +kernel
theorem dL_law_377 : decode cL_law 377 = .ok (.aload_n 2, 1) := by decide +kernel
theorem dL_law_378 : decode cL_law 378 = .ok (.aload_n 0, 1) := by decide +kernel
theorem dL_law_379 : decode cL_law 379 = .ok (.iload_n 3, 1) := by decide +kernel
theorem dL_law_380 : decode cL_law 380 = .ok (.iconst 1, 1) := by decide +kernel
theorem dL_law_381 : decode cL_law 381 = .ok (.iadd, 1) := by decide +kernel
theorem dL_law_382 : decode cL_law 382 = .ok (.iaload, 1) := by decide +kernel
theorem dL_law_383 : decode cL_law 383 = .ok (.aload_n 0, 1) := by decide +kernel
theorem dL_law_384 : decode cL_law 384 = .ok (.iload_n 3, 1) := by decide +kernel
theorem dL_law_385 : decode cL_law 385 = .ok (.iconst 2, 1) := by decide +kernel
theorem dL_law_386 : decode cL_law 386 = .ok (.iadd, 1) := by decide +kernel
theorem dL_law_387 : decode cL_law 387 = .ok (.iaload, 1) := by decide +kernel
theorem dL_law_388 : decode cL_law 388 = .ok (.invokevirtual 49, 3) := by decide +kernel
theorem dL_law_391 : decode cL_law 391 = .ok (.if_icmp .eq 601, 3) := by decide +kernel
theorem dL_law_394 : decode cL_law 394 = .ok (.iconst 0, 1) := by decide +kernel
theorem dL_law_395 : decode cL_law 395 = .ok (.ireturn, 1) := by decide +kernel
theorem dL_law_396 : decode cL_law 396 = .ok (.aload_n 1, 1) := by decide +kernel
theorem dL_law_397 : decode cL_law 397 = .ok (.aload_n 0, 1) := by decide +kernel
theorem dL_law_398 : decode cL_law 398 = .ok (.iload_n 3, 1) := by decide +kernel
theorem dL_law_399 : decode cL_law 399 = .ok (.iconst 1, 1) := by decide +kernel
theorem dL_law_400 : decode cL_law 400 = .ok (.iadd, 1) := by decide +kernel
theorem dL_law_401 : decode cL_law 401 = .ok (.iaload, 1) := by decide +kernel
theorem dL_law_402 : decode cL_law 402 = .ok (.invokevirtual 50, 3) := by decide +kernel
theorem dL_law_405 : decode cL_law 405 = .ok (.aload_n 2, 1) := by decide +kernel
theorem dL_law_406 : decode cL_law 406 = .ok (.aload_n 0, 1) := by decide +kernel
theorem dL_law_407 : decode cL_law 407 = .ok (.iload_n 3, 1) := by decide +kernel
theorem dL_law_408 : decode cL_law 408 = .ok (.iconst 1, 1) := by decide +kernel
theorem dL_law_409 : decode cL_law 409 = .ok (.iadd, 1) := by decide +kernel
theorem dL_law_410 : decode cL_law 410 = .ok (.iaload, 1) := by decide +kernel
theorem dL_law_411 : decode cL_law 411 = .ok (.invokevirtual 53, 3) := by decide +kernel
theorem dL_law_414 : decode cL_law 414 = .ok (.if_icmp .eq 578, 3) := by decide +kernel
theorem dL_law_417 : decode cL_law 417 = .ok (.iconst 0, 1) := by decide +kernel
theorem dL_law_418 : decode cL_law 418 = .ok (.ireturn, 1) := by decide +kernel
theorem dL_law_419 : decode cL_law 419 = .ok (.aload_n 1, 1) := by decide +kernel
theorem dL_law_420 : decode cL_law 420 = .ok (.aload_n 0, 1) := by decide +kernel
theorem dL_law_421 : decode cL_law 421 = .ok (.iload_n 3, 1) := by decide +kernel
theorem dL_law_422 : decode cL_law 422 = .ok (.iconst 1, 1) := by decide +kernel
theorem dL_law_423 : decode cL_law 423 = .ok (.iadd, 1) := by decide +kernel
theorem dL_law_424 : decode cL_law 424 = .ok (.iaload, 1) := by decide +kernel
theorem dL_law_425 : decode cL_law 425 = .ok (.invokevirtual 54, 3) := by decide +kernel
theorem dL_law_428 : decode cL_law 428 = .ok (.aload_n 2, 1) := by decide +kernel
theorem dL_law_429 : decode cL_law 429 = .ok (.aload_n 0, 1) := by decide +kernel
theorem dL_law_430 : decode cL_law 430 = .ok (.iload_n 3, 1) := by decide +kernel
theorem dL_law_431 : decode cL_law 431 = .ok (.iconst 1, 1) := by decide +kernel
theorem dL_law_432 : decode cL_law 432 = .ok (.iadd, 1) := by decide +kernel
theorem dL_law_433 : decode cL_law 433 = .ok (.iaload, 1) := by decide +kernel
theorem dL_law_434 : decode cL_law 434 = .ok (.invokevirtual 57, 3) := by decide +kernel
theorem dL_law_437 : decode cL_law 437 = .ok (.if_icmp .eq 555, 3) := by decide +kernel
theorem dL_law_440 : decode cL_law 440 = .ok (.iconst 0, 1) := by decide +kernel
theorem dL_law_441 : decode cL_law 441 = .ok (.ireturn, 1) := by decide +kernel
theorem dL_law_442 : decode cL_law 442 = .ok (.aload_n 1, 1) := by decide +kernel
theorem dL_law_443 : decode cL_law 443 = .ok (.aload_n 0, 1) := by decide +kernel
theorem dL_law_444 : decode cL_law 444 = .ok (.iload_n 3, 1) := by decide +kernel
theorem dL_law_445 : decode cL_law 445 = .ok (.iconst 1, 1) := by decide +kernel
theorem dL_law_446 : decode cL_law 446 = .ok (.iadd, 1) := by decide +kernel
theorem dL_law_447 : decode cL_law 447 = .ok (.iaload, 1) := by decide +kernel
theorem dL_law_448 : decode cL_law 448 = .ok (.aload_n 0, 1) := by decide +kernel
theorem dL_law_449 : decode cL_law 449 = .ok (.iload_n 3, 1) := by decide +kernel
theorem dL_law_450 : decode cL_law 450 = .ok (.iconst 2, 1) := by decide +kernel
theorem dL_law_451 : decode cL_law 451 = .ok (.iadd, 1) := by decide +kernel
theorem dL_law_452 : decode cL_law 452 = .ok (.iaload, 1) := by decide +kernel
theorem dL_law_453 : decode cL_law 453 = .ok (.invokevirtual 58, 3) := by decide +kernel
theorem dL_law_456 : decode cL_law 456 = .ok (.aload_n 2, 1) := by decide +kernel
theorem dL_law_457 : decode cL_law 457 = .ok (.aload_n 0, 1) := by decide +kernel
theorem dL_law_458 : decode cL_law 458 = .ok (.iload_n 3, 1) := by decide +kernel
theorem dL_law_459 : decode cL_law 459 = .ok (.iconst 1, 1) := by decide +kernel
theorem dL_law_460 : decode cL_law 460 = .ok (.iadd, 1) := by decide +kernel
theorem dL_law_461 : decode cL_law 461 = .ok (.iaload, 1) := by decide +kernel
theorem dL_law_462 : decode cL_law 462 = .ok (.aload_n 0, 1) := by decide +kernel
theorem dL_law_463 : decode cL_law 463 = .ok (.iload_n 3, 1) := by decide +kernel
theorem dL_law_464 : decode cL_law 464 = .ok (.iconst 2, 1) := by decide +kernel
theorem dL_law_465 : decode cL_law 465 = .ok (.iadd, 1) := by decide +kernel
theorem dL_law_466 : decode cL_law 466 = .ok (.iaload, 1) := by decide +kernel
theorem dL_law_467 : decode cL_law 467 = .ok (.invokevirtual 61, 3) := by decide +kernel
theorem dL_law_470 : decode cL_law 470 = .ok (.if_icmp .eq 522, 3) := by decide +kernel
theorem dL_law_473 : decode cL_law 473 = .ok (.iconst 0, 1) := by decide +kernel
theorem dL_law_474 : decode cL_law 474 = .ok (.ireturn, 1) := by decide +kernel
theorem dL_law_475 : decode cL_law 475 = .ok (.aload_n 1, 1) := by decide +kernel
theorem dL_law_476 : decode cL_law 476 = .ok (.aload_n 0, 1) := by decide +kernel
theorem dL_law_477 : decode cL_law 477 = .ok (.iload_n 3, 1) := by decide +kernel
theorem dL_law_478 : decode cL_law 478 = .ok (.iconst 1, 1) := by decide +kernel
theorem dL_law_479 : decode cL_law 479 = .ok (.iadd, 1) := by decide +kernel
theorem dL_law_480 : decode cL_law 480 = .ok (.iaload, 1) := by decide +kernel
theorem dL_law_481 : decode cL_law 481 = .ok (.aload_n 0, 1) := by decide +kernel
theorem dL_law_482 : decode cL_law 482 = .ok (.iload_n 3, 1) := by decide +kernel
theorem dL_law_483 : decode cL_law 483 = .ok (.iconst 2, 1) := by decide +kernel
theorem dL_law_484 : decode cL_law 484 = .ok (.iadd, 1) := by decide +kernel
theorem dL_law_485 : decode cL_law 485 = .ok (.iaload, 1) := by decide +kernel
theorem dL_law_486 : decode cL_law 486 = .ok (.invokevirtual 62, 3) := by decide +kernel
theorem dL_law_489 : decode cL_law 489 = .ok (.aload_n 2, 1) := by decide +kernel
theorem dL_law_490 : decode cL_law 490 = .ok (.aload_n 0, 1) := by decide +kernel
theorem dL_law_491 : decode cL_law 491 = .ok (.iload_n 3, 1) := by decide +kernel
theorem dL_law_492 : decode cL_law 492 = .ok (.iconst 1, 1) := by decide +kernel
theorem dL_law_493 : decode cL_law 493 = .ok (.iadd, 1) := by decide +kernel
theorem dL_law_494 : decode cL_law 494 = .ok (.iaload, 1) := by decide +kernel
theorem dL_law_495 : decode cL_law 495 = .ok (.aload_n 0, 1) := by decide +kernel
theorem dL_law_496 : decode cL_law 496 = .ok (.iload_n 3, 1) := by decide +kernel
theorem dL_law_497 : decode cL_law 497 = .ok (.iconst 2, 1) := by decide +kernel
theorem dL_law_498 : decode cL_law 498 = .ok (.iadd, 1) := by decide +kernel
theorem dL_law_499 : decode cL_law 499 = .ok (.iaload, 1) := by decide +kernel
theorem dL_law_500 : decode cL_law 500 = .ok (.invokevirtual 65, 3) := by decide +kernel
theorem dL_law_503 : decode cL_law 503 = .ok (.if_icmp .eq 489, 3) := by decide +kernel
theorem dL_law_506 : decode cL_law 506 = .ok (.iconst 0, 1) := by decide +kernel
theorem dL_law_507 : decode cL_law 507 = .ok (.ireturn, 1) := by decide +kernel
theorem dL_law_508 : decode cL_law 508 = .ok (.aload_n 1, 1) := by decide +kernel
theorem dL_law_509 : decode cL_law 509 = .ok (.aload_n 0, 1) := by decide +kernel
theorem dL_law_510 : decode cL_law 510 = .ok (.iload_n 3, 1) := by decide +kernel
theorem dL_law_511 : decode cL_law 511 = .ok (.iconst 1, 1) := by decide +kernel
theorem dL_law_512 : decode cL_law 512 = .ok (.iadd, 1) := by decide +kernel
theorem dL_law_513 : decode cL_law 513 = .ok (.iaload, 1) := by decide +kernel
theorem dL_law_514 : decode cL_law 514 = .ok (.aload_n 0, 1) := by decide +kernel
theorem dL_law_515 : decode cL_law 515 = .ok (.iload_n 3, 1) := by decide +kernel
theorem dL_law_516 : decode cL_law 516 = .ok (.iconst 2, 1) := by decide +kernel
theorem dL_law_517 : decode cL_law 517 = .ok (.iadd, 1) := by decide +kernel
theorem dL_law_518 : decode cL_law 518 = .ok (.iaload, 1) := by decide +kernel
theorem dL_law_519 : decode cL_law 519 = .ok (.aload_n 0, 1) := by decide +kernel
theorem dL_law_520 : decode cL_law 520 = .ok (.iload_n 3, 1) := by decide +kernel
theorem dL_law_521 : decode cL_law 521 = .ok (.iconst 3, 1) := by decide +kernel
theorem dL_law_522 : decode cL_law 522 = .ok (.iadd, 1) := by decide +kernel
theorem dL_law_523 : decode cL_law 523 = .ok (.iaload, 1) := by decide +kernel
theorem dL_law_524 : decode cL_law 524 = .ok (.invokevirtual 66, 3) := by decide +kernel
theorem dL_law_527 : decode cL_law 527 = .ok (.aload_n 2, 1) := by decide +kernel
theorem dL_law_528 : decode cL_law 528 = .ok (.aload_n 0, 1) := by decide +kernel
theorem dL_law_529 : decode cL_law 529 = .ok (.iload_n 3, 1) := by decide +kernel
theorem dL_law_530 : decode cL_law 530 = .ok (.iconst 1, 1) := by decide +kernel
theorem dL_law_531 : decode cL_law 531 = .ok (.iadd, 1) := by decide +kernel
theorem dL_law_532 : decode cL_law 532 = .ok (.iaload, 1) := by decide +kernel
theorem dL_law_533 : decode cL_law 533 = .ok (.aload_n 0, 1) := by decide +kernel
theorem dL_law_534 : decode cL_law 534 = .ok (.iload_n 3, 1) := by decide +kernel
theorem dL_law_535 : decode cL_law 535 = .ok (.iconst 2, 1) := by decide +kernel
theorem dL_law_536 : decode cL_law 536 = .ok (.iadd, 1) := by decide +kernel
theorem dL_law_537 : decode cL_law 537 = .ok (.iaload, 1) := by decide +kernel
theorem dL_law_538 : decode cL_law 538 = .ok (.aload_n 0, 1) := by decide +kernel
theorem dL_law_539 : decode cL_law 539 = .ok (.iload_n 3, 1) := by decide +kernel
theorem dL_law_540 : decode cL_law 540 = .ok (.iconst 3, 1) := by decide +kernel
theorem dL_law_541 : decode cL_law 541 = .ok (.iadd, 1) := by decide +kernel
theorem dL_law_542 : decode cL_law 542 = .ok (.iaload, 1) := by decide +kernel
theorem dL_law_543 : decode cL_law 543 = .ok (.invokevirtual 69, 3) := by decide +kernel
theorem dL_law_546 : decode cL_law 546 = .ok (.if_icmp .eq 446, 3) := by decide +kernel
theorem dL_law_549 : decode cL_law 549 = .ok (.iconst 0, 1) := by decide +kernel
theorem dL_law_550 : decode cL_law 550 = .ok (.ireturn, 1) := by decide +kernel
theorem dL_law_551 : decode cL_law 551 = .ok (.aload_n 1, 1) := by decide +kernel
theorem dL_law_552 : decode cL_law 552 = .ok (.aload_n 0, 1) := by decide +kernel
theorem dL_law_553 : decode cL_law 553 = .ok (.iload_n 3, 1) := by decide +kernel
theorem dL_law_554 : decode cL_law 554 = .ok (.iconst 1, 1) := by decide +kernel
theorem dL_law_555 : decode cL_law 555 = .ok (.iadd, 1) := by decide +kernel
theorem dL_law_556 : decode cL_law 556 = .ok (.iaload, 1) := by decide +kernel
theorem dL_law_557 : decode cL_law 557 = .ok (.aload_n 0, 1) := by decide +kernel
theorem dL_law_558 : decode cL_law 558 = .ok (.iload_n 3, 1) := by decide +kernel
theorem dL_law_559 : decode cL_law 559 = .ok (.iconst 2, 1) := by decide +kernel
theorem dL_law_560 : decode cL_law 560 = .ok (.iadd, 1) := by decide +kernel
theorem dL_law_561 : decode cL_law 561 = .ok (.iaload, 1) := by decide +kernel
theorem dL_law_562 : decode cL_law 562 = .ok (.invokevirtual 70, 3) := by decide +kernel
theorem dL_law_565 : decode cL_law 565 = .ok (.aload_n 2, 1) := by decide +kernel
theorem dL_law_566 : decode cL_law 566 = .ok (.aload_n 0, 1) := by decide +kernel
theorem dL_law_567 : decode cL_law 567 = .ok (.iload_n 3, 1) := by decide +kernel
theorem dL_law_568 : decode cL_law 568 = .ok (.iconst 1, 1) := by decide +kernel
theorem dL_law_569 : decode cL_law 569 = .ok (.iadd, 1) := by decide +kernel
theorem dL_law_570 : decode cL_law 570 = .ok (.iaload, 1) := by decide +kernel
theorem dL_law_571 : decode cL_law 571 = .ok (.aload_n 0, 1) := by decide +kernel
theorem dL_law_572 : decode cL_law 572 = .ok (.iload_n 3, 1) := by decide +kernel
theorem dL_law_573 : decode cL_law 573 = .ok (.iconst 2, 1) := by decide +kernel
theorem dL_law_574 : decode cL_law 574 = .ok (.iadd, 1) := by decide +kernel
theorem dL_law_575 : decode cL_law 575 = .ok (.iaload, 1) := by decide +kernel
theorem dL_law_576 : decode cL_law 576 = .ok (.invokevirtual 73, 3) := by decide +kernel
theorem dL_law_579 : decode cL_law 579 = .ok (.if_icmp .eq 413, 3) := by decide +kernel
theorem dL_law_582 : decode cL_law 582 = .ok (.iconst 0, 1) := by decide +kernel
theorem dL_law_583 : decode cL_law 583 = .ok (.ireturn, 1) := by decide +kernel
theorem dL_law_584 : decode cL_law 584 = .ok (.aload_n 1, 1) := by decide +kernel
theorem dL_law_585 : decode cL_law 585 = .ok (.aload_n 0, 1) := by decide +kernel
theorem dL_law_586 : decode cL_law 586 = .ok (.iload_n 3, 1) := by decide +kernel
theorem dL_law_587 : decode cL_law 587 = .ok (.iconst 1, 1) := by decide +kernel
theorem dL_law_588 : decode cL_law 588 = .ok (.iadd, 1) := by decide +kernel
theorem dL_law_589 : decode cL_law 589 = .ok (.iaload, 1) := by decide +kernel
theorem dL_law_590 : decode cL_law 590 = .ok (.aload_n 0, 1) := by decide +kernel
theorem dL_law_591 : decode cL_law 591 = .ok (.iload_n 3, 1) := by decide +kernel
theorem dL_law_592 : decode cL_law 592 = .ok (.iconst 2, 1) := by decide +kernel
theorem dL_law_593 : decode cL_law 593 = .ok (.iadd, 1) := by decide +kernel
theorem dL_law_594 : decode cL_law 594 = .ok (.iaload, 1) := by decide +kernel
theorem dL_law_595 : decode cL_law 595 = .ok (.invokevirtual 74, 3) := by decide +kernel
theorem dL_law_598 : decode cL_law 598 = .ok (.aload_n 2, 1) := by decide +kernel
theorem dL_law_599 : decode cL_law 599 = .ok (.aload_n 0, 1) := by decide +kernel
theorem dL_law_600 : decode cL_law 600 = .ok (.iload_n 3, 1) := by decide +kernel
theorem dL_law_601 : decode cL_law 601 = .ok (.iconst 1, 1) := by decide +kernel
theorem dL_law_602 : decode cL_law 602 = .ok (.iadd, 1) := by decide +kernel
theorem dL_law_603 : decode cL_law 603 = .ok (.iaload, 1) := by decide +kernel
theorem dL_law_604 : decode cL_law 604 = .ok (.aload_n 0, 1) := by decide +kernel
theorem dL_law_605 : decode cL_law 605 = .ok (.iload_n 3, 1) := by decide +kernel
theorem dL_law_606 : decode cL_law 606 = .ok (.iconst 2, 1) := by decide +kernel
theorem dL_law_607 : decode cL_law 607 = .ok (.iadd, 1) := by decide +kernel
theorem dL_law_608 : decode cL_law 608 = .ok (.iaload, 1) := by decide +kernel
theorem dL_law_609 : decode cL_law 609 = .ok (.invokevirtual 78, 3) := by decide +kernel
theorem dL_law_612 : decode cL_law 612 = .ok (.lcmp, 1) := by decide +kernel
theorem dL_law_613 : decode cL_law 613 = .ok (.ifCond .eq 379, 3) := by decide +kernel
theorem dL_law_616 : decode cL_law 616 = .ok (.iconst 0, 1) := by decide +kernel
theorem dL_law_617 : decode cL_law 617 = .ok (.ireturn, 1) := by decide +kernel
theorem dL_law_618 : decode cL_law 618 = .ok (.aload_n 1, 1) := by decide +kernel
theorem dL_law_619 : decode cL_law 619 = .ok (.aload_n 0, 1) := by decide +kernel
theorem dL_law_620 : decode cL_law 620 = .ok (.iload_n 3, 1) := by decide +kernel
theorem dL_law_621 : decode cL_law 621 = .ok (.iconst 1, 1) := by decide +kernel
theorem dL_law_622 : decode cL_law 622 = .ok (.iadd, 1) := by decide +kernel
theorem dL_law_623 : decode cL_law 623 = .ok (.iaload, 1) := by decide +kernel
theorem dL_law_624 : decode cL_law 624 = .ok (.aload_n 0, 1) := by decide +kernel
theorem dL_law_625 : decode cL_law 625 = .ok (.iload_n 3, 1) := by decide +kernel
theorem dL_law_626 : decode cL_law 626 = .ok (.iconst 2, 1) := by decide +kernel
theorem dL_law_627 : decode cL_law 627 = .ok (.iadd, 1) := by decide +kernel
theorem dL_law_628 : decode cL_law 628 = .ok (.iaload, 1) := by decide +kernel
theorem dL_law_629 : decode cL_law 629 = .ok (.aload_n 0, 1) := by decide +kernel
theorem dL_law_630 : decode cL_law 630 = .ok (.iload_n 3, 1) := by decide +kernel
theorem dL_law_631 : decode cL_law 631 = .ok (.iconst 3, 1) := by decide +kernel
theorem dL_law_632 : decode cL_law 632 = .ok (.iadd, 1) := by decide +kernel
theorem dL_law_633 : decode cL_law 633 = .ok (.iaload, 1) := by decide +kernel
theorem dL_law_634 : decode cL_law 634 = .ok (.invokevirtual 79, 3) := by decide +kernel
theorem dL_law_637 : decode cL_law 637 = .ok (.aload_n 2, 1) := by decide +kernel
theorem dL_law_638 : decode cL_law 638 = .ok (.aload_n 0, 1) := by decide +kernel
theorem dL_law_639 : decode cL_law 639 = .ok (.iload_n 3, 1) := by decide +kernel
theorem dL_law_640 : decode cL_law 640 = .ok (.iconst 1, 1) := by decide +kernel
theorem dL_law_641 : decode cL_law 641 = .ok (.iadd, 1) := by decide +kernel
theorem dL_law_642 : decode cL_law 642 = .ok (.iaload, 1) := by decide +kernel
theorem dL_law_643 : decode cL_law 643 = .ok (.aload_n 0, 1) := by decide +kernel
theorem dL_law_644 : decode cL_law 644 = .ok (.iload_n 3, 1) := by decide +kernel
theorem dL_law_645 : decode cL_law 645 = .ok (.iconst 2, 1) := by decide +kernel
theorem dL_law_646 : decode cL_law 646 = .ok (.iadd, 1) := by decide +kernel
theorem dL_law_647 : decode cL_law 647 = .ok (.iaload, 1) := by decide +kernel
theorem dL_law_648 : decode cL_law 648 = .ok (.aload_n 0, 1) := by decide +kernel
theorem dL_law_649 : decode cL_law 649 = .ok (.iload_n 3, 1) := by decide +kernel
theorem dL_law_650 : decode cL_law 650 = .ok (.iconst 3, 1) := by decide +kernel
theorem dL_law_651 : decode cL_law 651 = .ok (.iadd, 1) := by decide +kernel
theorem dL_law_652 : decode cL_law 652 = .ok (.iaload, 1) := by decide +kernel
theorem dL_law_653 : decode cL_law 653 = .ok (.invokevirtual 83, 3) := by decide +kernel
theorem dL_law_656 : decode cL_law 656 = .ok (.if_icmp .eq 336, 3) := by decide +kernel
theorem dL_law_659 : decode cL_law 659 = .ok (.iconst 0, 1) := by decide +kernel
theorem dL_law_660 : decode cL_law 660 = .ok (.ireturn, 1) := by decide +kernel
theorem dL_law_661 : decode cL_law 661 = .ok (.aload_n 1, 1) := by decide +kernel
theorem dL_law_662 : decode cL_law 662 = .ok (.aload_n 0, 1) := by decide +kernel
theorem dL_law_663 : decode cL_law 663 = .ok (.iload_n 3, 1) := by decide +kernel
theorem dL_law_664 : decode cL_law 664 = .ok (.iconst 1, 1) := by decide +kernel
theorem dL_law_665 : decode cL_law 665 = .ok (.iadd, 1) := by decide +kernel
theorem dL_law_666 : decode cL_law 666 = .ok (.iaload, 1) := by decide +kernel
theorem dL_law_667 : decode cL_law 667 = .ok (.aload_n 0, 1) := by decide +kernel
theorem dL_law_668 : decode cL_law 668 = .ok (.iload_n 3, 1) := by decide +kernel
theorem dL_law_669 : decode cL_law 669 = .ok (.iconst 2, 1) := by decide +kernel
theorem dL_law_670 : decode cL_law 670 = .ok (.iadd, 1) := by decide +kernel
theorem dL_law_671 : decode cL_law 671 = .ok (.iaload, 1) := by decide +kernel
theorem dL_law_672 : decode cL_law 672 = .ok (.aload_n 0, 1) := by decide +kernel
theorem dL_law_673 : decode cL_law 673 = .ok (.iload_n 3, 1) := by decide +kernel
theorem dL_law_674 : decode cL_law 674 = .ok (.iconst 3, 1) := by decide +kernel
theorem dL_law_675 : decode cL_law 675 = .ok (.iadd, 1) := by decide +kernel
theorem dL_law_676 : decode cL_law 676 = .ok (.iaload, 1) := by decide +kernel
theorem dL_law_677 : decode cL_law 677 = .ok (.invokevirtual 84, 3) := by decide +kernel
theorem dL_law_680 : decode cL_law 680 = .ok (.aload_n 2, 1) := by decide +kernel
theorem dL_law_681 : decode cL_law 681 = .ok (.aload_n 0, 1) := by decide +kernel
theorem dL_law_682 : decode cL_law 682 = .ok (.iload_n 3, 1) := by decide +kernel
theorem dL_law_683 : decode cL_law 683 = .ok (.iconst 1, 1) := by decide +kernel
theorem dL_law_684 : decode cL_law 684 = .ok (.iadd, 1) := by decide +kernel
theorem dL_law_685 : decode cL_law 685 = .ok (.iaload, 1) := by decide +kernel
theorem dL_law_686 : decode cL_law 686 = .ok (.aload_n 0, 1) := by decide +kernel
theorem dL_law_687 : decode cL_law 687 = .ok (.iload_n 3, 1) := by decide +kernel
theorem dL_law_688 : decode cL_law 688 = .ok (.iconst 2, 1) := by decide +kernel
theorem dL_law_689 : decode cL_law 689 = .ok (.iadd, 1) := by decide +kernel
theorem dL_law_690 : decode cL_law 690 = .ok (.iaload, 1) := by decide +kernel
theorem dL_law_691 : decode cL_law 691 = .ok (.aload_n 0, 1) := by decide +kernel
theorem dL_law_692 : decode cL_law 692 = .ok (.iload_n 3, 1) := by decide +kernel
theorem dL_law_693 : decode cL_law 693 = .ok (.iconst 3, 1) := by decide +kernel
theorem dL_law_694 : decode cL_law 694 = .ok (.iadd, 1) := by decide +kernel
theorem dL_law_695 : decode cL_law 695 = .ok (.iaload, 1) := by decide +kernel
theorem dL_law_696 : decode cL_law 696 = .ok (.invokevirtual 87, 3) := by decide +kernel
theorem dL_law_699 : decode cL_law 699 = .ok (.if_icmp .eq 293, 3) := by decide +kernel
theorem dL_law_702 : decode cL_law 702 = .ok (.iconst 0, 1) := by decide +kernel
theorem dL_law_703 : decode cL_law 703 = .ok (.ireturn, 1) := by decide +kernel
theorem dL_law_704 : decode cL_law 704 = .ok (.aload_n 1, 1) := by decide +kernel
theorem dL_law_705 : decode cL_law 705 = .ok (.aload_n 0, 1) := by decide +kernel
theorem dL_law_706 : decode cL_law 706 = .ok (.iload_n 3, 1) := by decide +kernel
theorem dL_law_707 : decode cL_law 707 = .ok (.iconst 1, 1) := by decide +kernel
theorem dL_law_708 : decode cL_law 708 = .ok (.iadd, 1) := by decide +kernel
theorem dL_law_709 : decode cL_law 709 = .ok (.iaload, 1) := by decide +kernel
theorem dL_law_710 : decode cL_law 710 = .ok (.aload_n 0, 1) := by decide +kernel
theorem dL_law_711 : decode cL_law 711 = .ok (.iload_n 3, 1) := by decide +kernel
theorem dL_law_712 : decode cL_law 712 = .ok (.iconst 2, 1) := by decide +kernel
theorem dL_law_713 : decode cL_law 713 = .ok (.iadd, 1) := by decide +kernel
theorem dL_law_714 : decode cL_law 714 = .ok (.iaload, 1) := by decide +kernel
theorem dL_law_715 : decode cL_law 715 = .ok (.invokevirtual 88, 3) := by decide +kernel
theorem dL_law_718 : decode cL_law 718 = .ok (.aload_n 2, 1) := by decide +kernel
theorem dL_law_719 : decode cL_law 719 = .ok (.aload_n 0, 1) := by decide +kernel
theorem dL_law_720 : decode cL_law 720 = .ok (.iload_n 3, 1) := by decide +kernel
theorem dL_law_721 : decode cL_law 721 = .ok (.iconst 1, 1) := by decide +kernel
theorem dL_law_722 : decode cL_law 722 = .ok (.iadd, 1) := by decide +kernel
theorem dL_law_723 : decode cL_law 723 = .ok (.iaload, 1) := by decide +kernel
theorem dL_law_724 : decode cL_law 724 = .ok (.aload_n 0, 1) := by decide +kernel
theorem dL_law_725 : decode cL_law 725 = .ok (.iload_n 3, 1) := by decide +kernel
theorem dL_law_726 : decode cL_law 726 = .ok (.iconst 2, 1) := by decide +kernel
theorem dL_law_727 : decode cL_law 727 = .ok (.iadd, 1) := by decide +kernel
theorem dL_law_728 : decode cL_law 728 = .ok (.iaload, 1) := by decide +kernel
theorem dL_law_729 : decode cL_law 729 = .ok (.invokevirtual 91, 3) := by decide +kernel
theorem dL_law_732 : decode cL_law 732 = .ok (.if_icmp .eq 260, 3) := by decide +kernel
theorem dL_law_735 : decode cL_law 735 = .ok (.iconst 0, 1) := by decide +kernel
theorem dL_law_736 : decode cL_law 736 = .ok (.ireturn, 1) := by decide +kernel
theorem dL_law_737 : decode cL_law 737 = .ok (.aload_n 1, 1) := by decide +kernel
theorem dL_law_738 : decode cL_law 738 = .ok (.aload_n 0, 1) := by decide +kernel
theorem dL_law_739 : decode cL_law 739 = .ok (.iload_n 3, 1) := by decide +kernel
theorem dL_law_740 : decode cL_law 740 = .ok (.iconst 1, 1) := by decide +kernel
theorem dL_law_741 : decode cL_law 741 = .ok (.iadd, 1) := by decide +kernel
theorem dL_law_742 : decode cL_law 742 = .ok (.iaload, 1) := by decide +kernel
theorem dL_law_743 : decode cL_law 743 = .ok (.aload_n 0, 1) := by decide +kernel
theorem dL_law_744 : decode cL_law 744 = .ok (.iload_n 3, 1) := by decide +kernel
theorem dL_law_745 : decode cL_law 745 = .ok (.iconst 2, 1) := by decide +kernel
theorem dL_law_746 : decode cL_law 746 = .ok (.iadd, 1) := by decide +kernel
theorem dL_law_747 : decode cL_law 747 = .ok (.iaload, 1) := by decide +kernel
theorem dL_law_748 : decode cL_law 748 = .ok (.aload_n 0, 1) := by decide +kernel
theorem dL_law_749 : decode cL_law 749 = .ok (.iload_n 3, 1) := by decide +kernel
theorem dL_law_750 : decode cL_law 750 = .ok (.iconst 3, 1) := by decide +kernel
theorem dL_law_751 : decode cL_law 751 = .ok (.iadd, 1) := by decide +kernel
theorem dL_law_752 : decode cL_law 752 = .ok (.iaload, 1) := by decide +kernel
theorem dL_law_753 : decode cL_law 753 = .ok (.invokevirtual 92, 3) := by decide +kernel
theorem dL_law_756 : decode cL_law 756 = .ok (.aload_n 2, 1) := by decide +kernel
theorem dL_law_757 : decode cL_law 757 = .ok (.aload_n 0, 1) := by decide +kernel
theorem dL_law_758 : decode cL_law 758 = .ok (.iload_n 3, 1) := by decide +kernel
theorem dL_law_759 : decode cL_law 759 = .ok (.iconst 1, 1) := by decide +kernel
theorem dL_law_760 : decode cL_law 760 = .ok (.iadd, 1) := by decide +kernel
theorem dL_law_761 : decode cL_law 761 = .ok (.iaload, 1) := by decide +kernel
theorem dL_law_762 : decode cL_law 762 = .ok (.aload_n 0, 1) := by decide +kernel
theorem dL_law_763 : decode cL_law 763 = .ok (.iload_n 3, 1) := by decide +kernel
theorem dL_law_764 : decode cL_law 764 = .ok (.iconst 2, 1) := by decide +kernel
theorem dL_law_765 : decode cL_law 765 = .ok (.iadd, 1) := by decide +kernel
theorem dL_law_766 : decode cL_law 766 = .ok (.iaload, 1) := by decide +kernel
theorem dL_law_767 : decode cL_law 767 = .ok (.aload_n 0, 1) := by decide +kernel
theorem dL_law_768 : decode cL_law 768 = .ok (.iload_n 3, 1) := by decide +kernel
theorem dL_law_769 : decode cL_law 769 = .ok (.iconst 3, 1) := by decide +kernel
theorem dL_law_770 : decode cL_law 770 = .ok (.iadd, 1) := by decide +kernel
theorem dL_law_771 : decode cL_law 771 = .ok (.iaload, 1) := by decide +kernel
theorem dL_law_772 : decode cL_law 772 = .ok (.invokevirtual 95, 3) := by decide +kernel
theorem dL_law_775 : decode cL_law 775 = .ok (.if_icmp .eq 217, 3) := by decide +kernel
theorem dL_law_778 : decode cL_law 778 = .ok (.iconst 0, 1) := by decide +kernel
theorem dL_law_779 : decode cL_law 779 = .ok (.ireturn, 1) := by decide +kernel
theorem dL_law_780 : decode cL_law 780 = .ok (.aload_n 1, 1) := by decide +kernel
theorem dL_law_781 : decode cL_law 781 = .ok (.aload_n 0, 1) := by decide +kernel
