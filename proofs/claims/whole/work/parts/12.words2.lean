set_option maxRecDepth 20000 in
theorem fl_X10_56 : Cond.fieldLink RX10 56 (TX10 1).1 (TX10 1).2.1 (TX10 1).2.2.1 ∈ gtbl := gc2 197 rfl rfl
set_option maxRecDepth 20000 in
theorem fl_X10_94 : Cond.fieldLink RX10 94 (TX9 4).1 (TX9 4).2.1 (TX9 4).2.2.1 ∈ gtbl := gc2 163 rfl rfl
set_option maxRecDepth 20000 in
theorem fl_X11_25 : Cond.fieldLink RX11 25 (TX11 3).1 (TX11 3).2.1 (TX11 3).2.2.1 ∈ gtbl := gc3 7 rfl rfl
set_option maxRecDepth 20000 in
theorem fl_X11_41 : Cond.fieldLink RX11 41 (TX11 4).1 (TX11 4).2.1 (TX11 4).2.2.1 ∈ gtbl := gc3 8 rfl rfl
set_option maxRecDepth 20000 in
theorem fl_X11_57 : Cond.fieldLink RX11 57 (TX11 7).1 (TX11 7).2.1 (TX11 7).2.2.1 ∈ gtbl := gc3 11 rfl rfl
set_option maxRecDepth 20000 in
theorem yv_X8_isKeyword : YS yX8_isKeyword cX8_isKeyword 3 ((some FieldType.boolean)) 1 := ⟨gc3 85 rfl rfl, gc1 2 rfl rfl, gc3 86 rfl rfl, by decide, by decide, by decide +kernel⟩
set_option maxRecDepth 20000 in
theorem yv_X8_keepWord : YV RX8 yX8_keepWord cX8_keepWord 7 ((none : Option FieldType)) 3 := ⟨gc3 82 rfl rfl, gs1 2 rfl, gc1 2 rfl rfl, gc3 83 rfl rfl, rfl, by decide, by decide, by decide +kernel⟩
set_option maxRecDepth 20000 in
theorem yv_X8_keep : YV RX8 yX8_keep cX8_keep 4 ((none : Option FieldType)) 3 := ⟨gc3 78 rfl rfl, gs1 1 rfl, gc1 2 rfl rfl, gc3 79 rfl rfl, rfl, by decide, by decide, by decide +kernel⟩
set_option maxRecDepth 20000 in
theorem yv_X8_scan : YV RX8 yX8_scan cX8_scan 6 ((none : Option FieldType)) 2 := ⟨gc3 61 rfl rfl, gc3 62 rfl rfl, gc1 2 rfl rfl, gc3 63 rfl rfl, rfl, by decide, by decide, by decide +kernel⟩
set_option maxRecDepth 20000 in
theorem yv_J6_bitCount_0f7a4 : YS yJ6_bitCount_0f7a4 cJ6_bitCount_0f7a4 1 ((some FieldType.int)) 1 := ⟨gc5 92 rfl rfl, gc1 21 rfl rfl, gc5 93 rfl rfl, by decide, by decide, by decide +kernel⟩
set_option maxRecDepth 20000 in
theorem yv_X10_change : YV RX10 yX10_change cX10_change 5 ((some FieldType.boolean)) 2 := ⟨gc5 88 rfl rfl, gs3 6 rfl, gc1 12 rfl rfl, gc5 89 rfl rfl, rfl, by decide, by decide, by decide +kernel⟩
set_option maxRecDepth 20000 in
theorem yv_X10_changeAll : YV RX10 yX10_changeAll cX10_changeAll 4 ((some FieldType.boolean)) 0 := ⟨gc5 84 rfl rfl, gs3 5 rfl, gc1 12 rfl rfl, gc5 85 rfl rfl, rfl, by decide, by decide, by decide +kernel⟩
set_option maxRecDepth 20000 in
theorem yv_X10_perform : YV RX10 yX10_perform cX10_perform 2 ((some FieldType.int)) 1 := ⟨gc4 179 rfl rfl, gc4 180 rfl rfl, gc1 12 rfl rfl, gc4 181 rfl rfl, rfl, by decide, by decide, by decide +kernel⟩
set_option maxRecDepth 20000 in
theorem yv_X11_map : YV RX11 yX11_map cX11_map 2 ((some FieldType.int)) 0 := ⟨gc3 57 rfl rfl, gc3 58 rfl rfl, gc1 1 rfl rfl, gc3 59 rfl rfl, rfl, by decide, by decide, by decide +kernel⟩
set_option maxRecDepth 20000 in
theorem yv_X11_close : YV RX11 yX11_close cX11_close 5 ((some FieldType.int)) 2 := ⟨gc4 171 rfl rfl, gc4 172 rfl rfl, gc1 1 rfl rfl, gc4 173 rfl rfl, rfl, by decide, by decide, by decide +kernel⟩
set_option maxRecDepth 20000 in
theorem yv_X11_flush : YV RX11 yX11_flush cX11_flush 3 ((some FieldType.int)) 1 := ⟨gc5 131 rfl rfl, gc5 132 rfl rfl, gc1 1 rfl rfl, gc5 133 rfl rfl, rfl, by decide, by decide, by decide +kernel⟩
set_option maxRecDepth 20000 in
theorem yv_X11_ask : YV RX11 yX11_ask cX11_ask 4 ((some FieldType.int)) 1 := ⟨gc6 88 rfl rfl, gc6 89 rfl rfl, gc1 1 rfl rfl, gc6 90 rfl rfl, rfl, by decide, by decide, by decide +kernel⟩
set_option maxRecDepth 20000 in
theorem ml_X8_35 : Cond.methodLink RX8 35 yX8_isBlank ∈ gtbl := gc3 64 rfl rfl
set_option maxRecDepth 20000 in
theorem ml_X8_39 : Cond.methodLink RX8 39 yX8_endOfToken ∈ gtbl := gc3 67 rfl rfl
set_option maxRecDepth 20000 in
theorem ml_X8_43 : Cond.methodLink RX8 43 yX8_keep ∈ gtbl := gc3 76 rfl rfl
set_option maxRecDepth 20000 in
theorem ml_X8_50 : Cond.methodLink RX8 50 yX8_keepWord ∈ gtbl := gc3 80 rfl rfl
set_option maxRecDepth 20000 in
theorem ml_X8_56 : Cond.methodLink RX8 56 yX8_keepNumber ∈ gtbl := gc3 89 rfl rfl
set_option maxRecDepth 20000 in
theorem ml_X8_67 : Cond.methodLink RX8 67 yX8_isKeyword ∈ gtbl := gc3 84 rfl rfl
set_option maxRecDepth 20000 in
theorem ml_X10_62 : Cond.methodLink RX10 62 yX10_begin ∈ gtbl := gc4 182 rfl rfl
set_option maxRecDepth 20000 in
theorem ml_X10_65 : Cond.methodLink RX10 65 yX10_arrange ∈ gtbl := gc4 186 rfl rfl
set_option maxRecDepth 20000 in
theorem ml_X10_69 : Cond.methodLink RX10 69 yX10_runHooks ∈ gtbl := gc4 198 rfl rfl
set_option maxRecDepth 20000 in
theorem ml_X10_73 : Cond.methodLink RX10 73 yX5_copyFrom ∈ gtbl := gc4 215 rfl rfl
set_option maxRecDepth 20000 in
theorem ml_X10_77 : Cond.methodLink RX10 77 yX10_insertAll ∈ gtbl := gc4 222 rfl rfl
set_option maxRecDepth 20000 in
theorem ml_X10_81 : Cond.methodLink RX10 81 yX10_changeAll ∈ gtbl := gc5 82 rfl rfl
set_option maxRecDepth 20000 in
theorem ml_X10_85 : Cond.methodLink RX10 85 yX10_deleteAll ∈ gtbl := gc5 97 rfl rfl
set_option maxRecDepth 20000 in
theorem ml_X10_88 : Cond.methodLink RX10 88 yX10_settle ∈ gtbl := gc5 121 rfl rfl
set_option maxRecDepth 20000 in
theorem ml_X10_226 : Cond.methodLink RX10 226 yX10_change ∈ gtbl := gc5 86 rfl rfl
set_option maxRecDepth 20000 in
theorem ml_X10_238 : Cond.methodLink RX10 238 yJ6_bitCount_0f7a4 ∈ gtbl := gc5 91 rfl rfl
set_option maxRecDepth 20000 in
theorem ml_X11_94 : Cond.methodLink RX11 94 yX8_scan ∈ gtbl := gc3 60 rfl rfl
set_option maxRecDepth 20000 in
theorem ml_X11_98 : Cond.methodLink RX11 98 yX0_readClasses ∈ gtbl := gc3 181 rfl rfl
set_option maxRecDepth 20000 in
theorem ml_X11_105 : Cond.methodLink RX11 105 yX11_beginAnew ∈ gtbl := gc4 139 rfl rfl
set_option maxRecDepth 20000 in
theorem ml_X11_171 : Cond.methodLink RX11 171 yX10_perform ∈ gtbl := gc4 178 rfl rfl
set_option maxRecDepth 20000 in
theorem ml_X11_300 : Cond.methodLink RX11 300 yX4_readQuestion ∈ gtbl := gc6 91 rfl rfl
set_option maxRecDepth 20000 in
theorem ml_X11_303 : Cond.methodLink RX11 303 yX11_tellRows ∈ gtbl := gc6 186 rfl rfl
