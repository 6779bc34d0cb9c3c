/-! a shift to the right without sign; the place of a sign in the signs' text -/
abbrev ushr32 (x y : Int32) : Int32 := (x.toUInt32 >>> (y.toUInt32 &&& Int32.toUInt32 31)).toInt32
def sgF (c : Int32) : List Int32 → Nat → Int32
  | [], _ => -1
  | b :: l, k => if b = c then nI k else sgF c l (k + 1)
def sgIx (c : Int32) : Int32 := sgF c sgb 0
def sgOk (c : Int32) : Prop := 0 ≤ c ∧ c ≤ 255
theorem dJ6_bitCount_0f7a4_0 : decode cJ6_bitCount_0f7a4 0 = .ok (.iload_n 0, 1) := by decide +kernel
theorem dJ6_bitCount_0f7a4_1 : decode cJ6_bitCount_0f7a4 1 = .ok (.iload_n 0, 1) := by decide +kernel
theorem dJ6_bitCount_0f7a4_2 : decode cJ6_bitCount_0f7a4 2 = .ok (.iconst 1, 1) := by decide +kernel
theorem dJ6_bitCount_0f7a4_3 : decode cJ6_bitCount_0f7a4 3 = .ok (.iushr, 1) := by decide +kernel
theorem dJ6_bitCount_0f7a4_4 : decode cJ6_bitCount_0f7a4 4 = .ok (.ldc_w 265, 3) := by decide +kernel
theorem dJ6_bitCount_0f7a4_7 : decode cJ6_bitCount_0f7a4 7 = .ok (.iand, 1) := by decide +kernel
theorem dJ6_bitCount_0f7a4_8 : decode cJ6_bitCount_0f7a4 8 = .ok (.isub, 1) := by decide +kernel
theorem dJ6_bitCount_0f7a4_9 : decode cJ6_bitCount_0f7a4 9 = .ok (.istore_n 0, 1) := by decide +kernel
theorem dJ6_bitCount_0f7a4_10 : decode cJ6_bitCount_0f7a4 10 = .ok (.iload_n 0, 1) := by decide +kernel
theorem dJ6_bitCount_0f7a4_11 : decode cJ6_bitCount_0f7a4 11 = .ok (.ldc_w 266, 3) := by decide +kernel
theorem dJ6_bitCount_0f7a4_14 : decode cJ6_bitCount_0f7a4 14 = .ok (.iand, 1) := by decide +kernel
theorem dJ6_bitCount_0f7a4_15 : decode cJ6_bitCount_0f7a4 15 = .ok (.iload_n 0, 1) := by decide +kernel
theorem dJ6_bitCount_0f7a4_16 : decode cJ6_bitCount_0f7a4 16 = .ok (.iconst 2, 1) := by decide +kernel
theorem dJ6_bitCount_0f7a4_17 : decode cJ6_bitCount_0f7a4 17 = .ok (.iushr, 1) := by decide +kernel
theorem dJ6_bitCount_0f7a4_18 : decode cJ6_bitCount_0f7a4 18 = .ok (.ldc_w 266, 3) := by decide +kernel
theorem dJ6_bitCount_0f7a4_21 : decode cJ6_bitCount_0f7a4 21 = .ok (.iand, 1) := by decide +kernel
theorem dJ6_bitCount_0f7a4_22 : decode cJ6_bitCount_0f7a4 22 = .ok (.iadd, 1) := by decide +kernel
theorem dJ6_bitCount_0f7a4_23 : decode cJ6_bitCount_0f7a4 23 = .ok (.istore_n 0, 1) := by decide +kernel
theorem dJ6_bitCount_0f7a4_24 : decode cJ6_bitCount_0f7a4 24 = .ok (.iload_n 0, 1) := by decide +kernel
theorem dJ6_bitCount_0f7a4_25 : decode cJ6_bitCount_0f7a4 25 = .ok (.iload_n 0, 1) := by decide +kernel
theorem dJ6_bitCount_0f7a4_26 : decode cJ6_bitCount_0f7a4 26 = .ok (.iconst 4, 1) := by decide +kernel
theorem dJ6_bitCount_0f7a4_27 : decode cJ6_bitCount_0f7a4 27 = .ok (.iushr, 1) := by decide +kernel
theorem dJ6_bitCount_0f7a4_28 : decode cJ6_bitCount_0f7a4 28 = .ok (.iadd, 1) := by decide +kernel
theorem dJ6_bitCount_0f7a4_29 : decode cJ6_bitCount_0f7a4 29 = .ok (.ldc_w 267, 3) := by decide +kernel
theorem dJ6_bitCount_0f7a4_32 : decode cJ6_bitCount_0f7a4 32 = .ok (.iand, 1) := by decide +kernel
theorem dJ6_bitCount_0f7a4_33 : decode cJ6_bitCount_0f7a4 33 = .ok (.istore_n 0, 1) := by decide +kernel
theorem dJ6_bitCount_0f7a4_34 : decode cJ6_bitCount_0f7a4 34 = .ok (.iload_n 0, 1) := by decide +kernel
theorem dJ6_bitCount_0f7a4_35 : decode cJ6_bitCount_0f7a4 35 = .ok (.iload_n 0, 1) := by decide +kernel
theorem dJ6_bitCount_0f7a4_36 : decode cJ6_bitCount_0f7a4 36 = .ok (.bipush 8, 2) := by decide +kernel
theorem dJ6_bitCount_0f7a4_38 : decode cJ6_bitCount_0f7a4 38 = .ok (.iushr, 1) := by decide +kernel
theorem dJ6_bitCount_0f7a4_39 : decode cJ6_bitCount_0f7a4 39 = .ok (.iadd, 1) := by decide +kernel
theorem dJ6_bitCount_0f7a4_40 : decode cJ6_bitCount_0f7a4 40 = .ok (.istore_n 0, 1) := by decide +kernel
theorem dJ6_bitCount_0f7a4_41 : decode cJ6_bitCount_0f7a4 41 = .ok (.iload_n 0, 1) := by decide +kernel
theorem dJ6_bitCount_0f7a4_42 : decode cJ6_bitCount_0f7a4 42 = .ok (.iload_n 0, 1) := by decide +kernel
theorem dJ6_bitCount_0f7a4_43 : decode cJ6_bitCount_0f7a4 43 = .ok (.bipush 16, 2) := by decide +kernel
theorem dJ6_bitCount_0f7a4_45 : decode cJ6_bitCount_0f7a4 45 = .ok (.iushr, 1) := by decide +kernel
theorem dJ6_bitCount_0f7a4_46 : decode cJ6_bitCount_0f7a4 46 = .ok (.iadd, 1) := by decide +kernel
theorem dJ6_bitCount_0f7a4_47 : decode cJ6_bitCount_0f7a4 47 = .ok (.istore_n 0, 1) := by decide +kernel
theorem dJ6_bitCount_0f7a4_48 : decode cJ6_bitCount_0f7a4 48 = .ok (.iload_n 0, 1) := by decide +kernel
theorem dJ6_bitCount_0f7a4_49 : decode cJ6_bitCount_0f7a4 49 = .ok (.bipush 63, 2) := by decide +kernel
theorem dJ6_bitCount_0f7a4_51 : decode cJ6_bitCount_0f7a4 51 = .ok (.iand, 1) := by decide +kernel
theorem dJ6_bitCount_0f7a4_52 : decode cJ6_bitCount_0f7a4 52 = .ok (.ireturn, 1) := by decide +kernel
theorem dJ0_indexOf_0f7a4_0 : decode cJ0_indexOf_0f7a4 0 = .ok (.aload_n 0, 1) := by decide +kernel
theorem dJ0_indexOf_0f7a4_1 : decode cJ0_indexOf_0f7a4 1 = .ok (.iload_n 1, 1) := by decide +kernel
theorem dJ0_indexOf_0f7a4_2 : decode cJ0_indexOf_0f7a4 2 = .ok (.iconst 0, 1) := by decide +kernel
theorem dJ0_indexOf_0f7a4_3 : decode cJ0_indexOf_0f7a4 3 = .ok (.invokevirtual 633, 3) := by decide +kernel
theorem dJ0_indexOf_0f7a4_6 : decode cJ0_indexOf_0f7a4 6 = .ok (.ireturn, 1) := by decide +kernel
theorem dJ0_indexOf_7cf53_0 : decode cJ0_indexOf_7cf53 0 = .ok (.aload_n 0, 1) := by decide +kernel
theorem dJ0_indexOf_7cf53_1 : decode cJ0_indexOf_7cf53 1 = .ok (.invokevirtual 492, 3) := by decide +kernel
theorem dJ0_indexOf_7cf53_4 : decode cJ0_indexOf_7cf53 4 = .ok (.ifCond .eq 19, 3) := by decide +kernel
theorem dJ0_indexOf_7cf53_7 : decode cJ0_indexOf_7cf53 7 = .ok (.aload_n 0, 1) := by decide +kernel
theorem dJ0_indexOf_7cf53_8 : decode cJ0_indexOf_7cf53 8 = .ok (.getfield 9, 3) := by decide +kernel
theorem dJ0_indexOf_7cf53_11 : decode cJ0_indexOf_7cf53 11 = .ok (.iload_n 1, 1) := by decide +kernel
theorem dJ0_indexOf_7cf53_12 : decode cJ0_indexOf_7cf53 12 = .ok (.iload_n 2, 1) := by decide +kernel
theorem dJ0_indexOf_7cf53_13 : decode cJ0_indexOf_7cf53 13 = .ok (.aload_n 0, 1) := by decide +kernel
theorem dJ0_indexOf_7cf53_14 : decode cJ0_indexOf_7cf53 14 = .ok (.invokevirtual 505, 3) := by decide +kernel
theorem dJ0_indexOf_7cf53_17 : decode cJ0_indexOf_7cf53 17 = .ok (.invokestatic 637, 3) := by decide +kernel
theorem dJ0_indexOf_7cf53_20 : decode cJ0_indexOf_7cf53 20 = .ok (.goto 16, 3) := by decide +kernel
theorem dJ0_indexOf_7cf53_23 : decode cJ0_indexOf_7cf53 23 = .ok (.aload_n 0, 1) := by decide +kernel
theorem dJ0_indexOf_7cf53_24 : decode cJ0_indexOf_7cf53 24 = .ok (.getfield 9, 3) := by decide +kernel
theorem dJ0_indexOf_7cf53_27 : decode cJ0_indexOf_7cf53 27 = .ok (.iload_n 1, 1) := by decide +kernel
theorem dJ0_indexOf_7cf53_28 : decode cJ0_indexOf_7cf53 28 = .ok (.iload_n 2, 1) := by decide +kernel
theorem dJ0_indexOf_7cf53_29 : decode cJ0_indexOf_7cf53 29 = .ok (.aload_n 0, 1) := by decide +kernel
theorem dJ0_indexOf_7cf53_30 : decode cJ0_indexOf_7cf53 30 = .ok (.invokevirtual 505, 3) := by decide +kernel
theorem dJ0_indexOf_7cf53_33 : decode cJ0_indexOf_7cf53 33 = .ok (.invokestatic 640, 3) := by decide +kernel
theorem dJ0_indexOf_7cf53_36 : decode cJ0_indexOf_7cf53 36 = .ok (.ireturn, 1) := by decide +kernel
theorem dJ0_isLatin1_aae02_0 : decode cJ0_isLatin1_aae02 0 = .ok (.getstatic 38, 3) := by decide +kernel
theorem dJ0_isLatin1_aae02_3 : decode cJ0_isLatin1_aae02 3 = .ok (.ifCond .eq 14, 3) := by decide +kernel
theorem dJ0_isLatin1_aae02_6 : decode cJ0_isLatin1_aae02 6 = .ok (.aload_n 0, 1) := by decide +kernel
theorem dJ0_isLatin1_aae02_7 : decode cJ0_isLatin1_aae02 7 = .ok (.getfield 15, 3) := by decide +kernel
theorem dJ0_isLatin1_aae02_10 : decode cJ0_isLatin1_aae02 10 = .ok (.ifCond .ne 7, 3) := by decide +kernel
theorem dJ0_isLatin1_aae02_13 : decode cJ0_isLatin1_aae02 13 = .ok (.iconst 1, 1) := by decide +kernel
theorem dJ0_isLatin1_aae02_14 : decode cJ0_isLatin1_aae02 14 = .ok (.goto 4, 3) := by decide +kernel
theorem dJ0_isLatin1_aae02_17 : decode cJ0_isLatin1_aae02 17 = .ok (.iconst 0, 1) := by decide +kernel
theorem dJ0_isLatin1_aae02_18 : decode cJ0_isLatin1_aae02 18 = .ok (.ireturn, 1) := by decide +kernel
theorem dJ0_length_8abf5_0 : decode cJ0_length_8abf5 0 = .ok (.aload_n 0, 1) := by decide +kernel
theorem dJ0_length_8abf5_1 : decode cJ0_length_8abf5 1 = .ok (.getfield 9, 3) := by decide +kernel
theorem dJ0_length_8abf5_4 : decode cJ0_length_8abf5 4 = .ok (.arraylength, 1) := by decide +kernel
theorem dJ0_length_8abf5_5 : decode cJ0_length_8abf5 5 = .ok (.aload_n 0, 1) := by decide +kernel
theorem dJ0_length_8abf5_6 : decode cJ0_length_8abf5 6 = .ok (.invokevirtual 335, 3) := by decide +kernel
theorem dJ0_length_8abf5_9 : decode cJ0_length_8abf5 9 = .ok (.ishr, 1) := by decide +kernel
theorem dJ0_length_8abf5_10 : decode cJ0_length_8abf5 10 = .ok (.ireturn, 1) := by decide +kernel
theorem dJ0_coder_7d493_0 : decode cJ0_coder_7d493 0 = .ok (.getstatic 38, 3) := by decide +kernel
theorem dJ0_coder_7d493_3 : decode cJ0_coder_7d493 3 = .ok (.ifCond .eq 10, 3) := by decide +kernel
theorem dJ0_coder_7d493_6 : decode cJ0_coder_7d493 6 = .ok (.aload_n 0, 1) := by decide +kernel
theorem dJ0_coder_7d493_7 : decode cJ0_coder_7d493 7 = .ok (.getfield 15, 3) := by decide +kernel
theorem dJ0_coder_7d493_10 : decode cJ0_coder_7d493 10 = .ok (.goto 4, 3) := by decide +kernel
theorem dJ0_coder_7d493_13 : decode cJ0_coder_7d493 13 = .ok (.iconst 1, 1) := by decide +kernel
theorem dJ0_coder_7d493_14 : decode cJ0_coder_7d493 14 = .ok (.ireturn, 1) := by decide +kernel
theorem dJ1_indexOf_4cfef_0 : decode cJ1_indexOf_4cfef 0 = .ok (.iload_n 1, 1) := by decide +kernel
theorem dJ1_indexOf_4cfef_1 : decode cJ1_indexOf_4cfef 1 = .ok (.invokestatic 88, 3) := by decide +kernel
theorem dJ1_indexOf_4cfef_4 : decode cJ1_indexOf_4cfef 4 = .ok (.ifCond .ne 5, 3) := by decide +kernel
theorem dJ1_indexOf_4cfef_7 : decode cJ1_indexOf_4cfef 7 = .ok (.iconst (-1), 1) := by decide +kernel
theorem dJ1_indexOf_4cfef_8 : decode cJ1_indexOf_4cfef 8 = .ok (.ireturn, 1) := by decide +kernel
theorem dJ1_indexOf_4cfef_9 : decode cJ1_indexOf_4cfef 9 = .ok (.iload_n 2, 1) := by decide +kernel
theorem dJ1_indexOf_4cfef_10 : decode cJ1_indexOf_4cfef 10 = .ok (.iconst 0, 1) := by decide +kernel
theorem dJ1_indexOf_4cfef_11 : decode cJ1_indexOf_4cfef 11 = .ok (.invokestatic 92, 3) := by decide +kernel
theorem dJ1_indexOf_4cfef_14 : decode cJ1_indexOf_4cfef 14 = .ok (.istore_n 2, 1) := by decide +kernel
theorem dJ1_indexOf_4cfef_15 : decode cJ1_indexOf_4cfef 15 = .ok (.iload_n 3, 1) := by decide +kernel
theorem dJ1_indexOf_4cfef_16 : decode cJ1_indexOf_4cfef 16 = .ok (.aload_n 0, 1) := by decide +kernel
theorem dJ1_indexOf_4cfef_17 : decode cJ1_indexOf_4cfef 17 = .ok (.arraylength, 1) := by decide +kernel
theorem dJ1_indexOf_4cfef_18 : decode cJ1_indexOf_4cfef 18 = .ok (.invokestatic 38, 3) := by decide +kernel
theorem dJ1_indexOf_4cfef_21 : decode cJ1_indexOf_4cfef 21 = .ok (.istore_n 3, 1) := by decide +kernel
theorem dJ1_indexOf_4cfef_22 : decode cJ1_indexOf_4cfef 22 = .ok (.iload_n 2, 1) := by decide +kernel
theorem dJ1_indexOf_4cfef_23 : decode cJ1_indexOf_4cfef 23 = .ok (.iload_n 3, 1) := by decide +kernel
theorem dJ1_indexOf_4cfef_24 : decode cJ1_indexOf_4cfef 24 = .ok (.if_icmp .lt 5, 3) := by decide +kernel
theorem dJ1_indexOf_4cfef_27 : decode cJ1_indexOf_4cfef 27 = .ok (.iconst (-1), 1) := by decide +kernel
theorem dJ1_indexOf_4cfef_28 : decode cJ1_indexOf_4cfef 28 = .ok (.ireturn, 1) := by decide +kernel
theorem dJ1_indexOf_4cfef_29 : decode cJ1_indexOf_4cfef 29 = .ok (.aload_n 0, 1) := by decide +kernel
theorem dJ1_indexOf_4cfef_30 : decode cJ1_indexOf_4cfef 30 = .ok (.iload_n 1, 1) := by decide +kernel
theorem dJ1_indexOf_4cfef_31 : decode cJ1_indexOf_4cfef 31 = .ok (.iload_n 2, 1) := by decide +kernel
theorem dJ1_indexOf_4cfef_32 : decode cJ1_indexOf_4cfef 32 = .ok (.iload_n 3, 1) := by decide +kernel
theorem dJ1_indexOf_4cfef_33 : decode cJ1_indexOf_4cfef 33 = .ok (.invokestatic 95, 3) := by decide +kernel
theorem dJ1_indexOf_4cfef_36 : decode cJ1_indexOf_4cfef 36 = .ok (.ireturn, 1) := by decide +kernel
theorem dJ1_canEncode_9a6ad_0 : decode cJ1_canEncode_9a6ad 0 = .ok (.iload_n 0, 1) := by decide +kernel
theorem dJ1_canEncode_9a6ad_1 : decode cJ1_canEncode_9a6ad 1 = .ok (.ifCond .lt 14, 3) := by decide +kernel
theorem dJ1_canEncode_9a6ad_4 : decode cJ1_canEncode_9a6ad 4 = .ok (.iload_n 0, 1) := by decide +kernel
theorem dJ1_canEncode_9a6ad_5 : decode cJ1_canEncode_9a6ad 5 = .ok (.sipush 255, 3) := by decide +kernel
theorem dJ1_canEncode_9a6ad_8 : decode cJ1_canEncode_9a6ad 8 = .ok (.if_icmp .gt 7, 3) := by decide +kernel
theorem dJ1_canEncode_9a6ad_11 : decode cJ1_canEncode_9a6ad 11 = .ok (.iconst 1, 1) := by decide +kernel
theorem dJ1_canEncode_9a6ad_12 : decode cJ1_canEncode_9a6ad 12 = .ok (.goto 4, 3) := by decide +kernel
theorem dJ1_canEncode_9a6ad_15 : decode cJ1_canEncode_9a6ad 15 = .ok (.iconst 0, 1) := by decide +kernel
theorem dJ1_canEncode_9a6ad_16 : decode cJ1_canEncode_9a6ad 16 = .ok (.ireturn, 1) := by decide +kernel
theorem dJ1_indexOfChar_4cfef_0 : decode cJ1_indexOfChar_4cfef 0 = .ok (.iload_n 1, 1) := by decide +kernel
theorem dJ1_indexOfChar_4cfef_1 : decode cJ1_indexOfChar_4cfef 1 = .ok (.i2b, 1) := by decide +kernel
theorem dJ1_indexOfChar_4cfef_2 : decode cJ1_indexOfChar_4cfef 2 = .ok (.istore 4, 2) := by decide +kernel
theorem dJ1_indexOfChar_4cfef_4 : decode cJ1_indexOfChar_4cfef 4 = .ok (.iload_n 2, 1) := by decide +kernel
theorem dJ1_indexOfChar_4cfef_5 : decode cJ1_indexOfChar_4cfef 5 = .ok (.istore 5, 2) := by decide +kernel
theorem dJ1_indexOfChar_4cfef_7 : decode cJ1_indexOfChar_4cfef 7 = .ok (.iload 5, 2) := by decide +kernel
theorem dJ1_indexOfChar_4cfef_9 : decode cJ1_indexOfChar_4cfef 9 = .ok (.iload_n 3, 1) := by decide +kernel
theorem dJ1_indexOfChar_4cfef_10 : decode cJ1_indexOfChar_4cfef 10 = .ok (.if_icmp .ge 21, 3) := by decide +kernel
theorem dJ1_indexOfChar_4cfef_13 : decode cJ1_indexOfChar_4cfef 13 = .ok (.aload_n 0, 1) := by decide +kernel
theorem dJ1_indexOfChar_4cfef_14 : decode cJ1_indexOfChar_4cfef 14 = .ok (.iload 5, 2) := by decide +kernel
theorem dJ1_indexOfChar_4cfef_16 : decode cJ1_indexOfChar_4cfef 16 = .ok (.baload, 1) := by decide +kernel
theorem dJ1_indexOfChar_4cfef_17 : decode cJ1_indexOfChar_4cfef 17 = .ok (.iload 4, 2) := by decide +kernel
theorem dJ1_indexOfChar_4cfef_19 : decode cJ1_indexOfChar_4cfef 19 = .ok (.if_icmp .ne 6, 3) := by decide +kernel
theorem dJ1_indexOfChar_4cfef_22 : decode cJ1_indexOfChar_4cfef 22 = .ok (.iload 5, 2) := by decide +kernel
theorem dJ1_indexOfChar_4cfef_24 : decode cJ1_indexOfChar_4cfef 24 = .ok (.ireturn, 1) := by decide +kernel
theorem dJ1_indexOfChar_4cfef_25 : decode cJ1_indexOfChar_4cfef 25 = .ok (.iinc 5 1, 3) := by decide +kernel
theorem dJ1_indexOfChar_4cfef_28 : decode cJ1_indexOfChar_4cfef 28 = .ok (.goto (-21), 3) := by decide +kernel
theorem dJ1_indexOfChar_4cfef_31 : decode cJ1_indexOfChar_4cfef 31 = .ok (.iconst (-1), 1) := by decide +kernel
theorem dJ1_indexOfChar_4cfef_32 : decode cJ1_indexOfChar_4cfef 32 = .ok (.ireturn, 1) := by decide +kernel
set_option maxRecDepth 20000 in
theorem yv_J0_indexOf_0f7a4 : YV RJ0 yJ0_indexOf_0f7a4 cJ0_indexOf_0f7a4 2 (some .int) 1 := ⟨gc3 96 rfl rfl, gc3 97 rfl rfl, gc1 14 rfl rfl, gc3 98 rfl rfl, rfl, by decide, by decide, by decide +kernel⟩
set_option maxRecDepth 20000 in
theorem yv_J0_indexOf_7cf53 : YV RJ0 yJ0_indexOf_7cf53 cJ0_indexOf_7cf53 3 (some .int) 2 := ⟨gc3 100 rfl rfl, gc3 101 rfl rfl, gc1 14 rfl rfl, gc3 102 rfl rfl, rfl, by decide, by decide, by decide +kernel⟩
set_option maxRecDepth 20000 in
theorem yv_J0_isLatin1_aae02 : YV RJ0 yJ0_isLatin1_aae02 cJ0_isLatin1_aae02 1 (some .boolean) 0 := ⟨gc3 104 rfl rfl, gc3 105 rfl rfl, gc1 14 rfl rfl, gc3 106 rfl rfl, rfl, by decide, by decide, by decide +kernel⟩
set_option maxRecDepth 20000 in
theorem yv_J0_length_8abf5 : YV RJ0 yJ0_length_8abf5 cJ0_length_8abf5 1 (some .int) 0 := ⟨gc3 110 rfl rfl, gc3 111 rfl rfl, gc1 14 rfl rfl, gc3 112 rfl rfl, rfl, by decide, by decide, by decide +kernel⟩
set_option maxRecDepth 20000 in
theorem yv_J0_coder_7d493 : YV RJ0 yJ0_coder_7d493 cJ0_coder_7d493 1 (some .byte) 0 := ⟨gc3 114 rfl rfl, gc3 115 rfl rfl, gc1 14 rfl rfl, gc3 116 rfl rfl, rfl, by decide, by decide, by decide +kernel⟩
set_option maxRecDepth 20000 in
theorem yv_J1_indexOf_4cfef : YS yJ1_indexOf_4cfef cJ1_indexOf_4cfef 4 (some .int) 4 := ⟨gc3 118 rfl rfl, gc1 15 rfl rfl, gc3 119 rfl rfl, by decide, by decide, by decide +kernel⟩
set_option maxRecDepth 20000 in
theorem yv_J1_canEncode_9a6ad : YS yJ1_canEncode_9a6ad cJ1_canEncode_9a6ad 1 (some .boolean) 1 := ⟨gc3 121 rfl rfl, gc1 15 rfl rfl, gc3 122 rfl rfl, by decide, by decide, by decide +kernel⟩
set_option maxRecDepth 20000 in
theorem yv_J1_indexOfChar_4cfef : YS yJ1_indexOfChar_4cfef cJ1_indexOfChar_4cfef 6 (some .int) 4 := ⟨gc3 130 rfl rfl, gc1 15 rfl rfl, gc3 131 rfl rfl, by decide, by decide, by decide +kernel⟩
/-! the signs' text: a String with its bytes, outside the world -/
def Sq (b0 q v : Nat) (U : State) (H : Heap) : Prop := va_O "java/lang/String" q (AA b0) U H ∧ va_OF "java/lang/String" "coder" "B" (.int 0) q (AA b0) U H ∧ va_OF "java/lang/String" "value" "[B" (.ref v) q (AA b0) U H ∧ va_T .byte v 13 (fun j => .int (sgb.getD j 0)) (AA b0) U H ∧ va_Z "java/lang/String" "COMPACT_STRINGS" "Z" (.int 1) (AA b0) U H
theorem Sq.go {b0 q v : Nat} {s U : State} {H0 H : Heap} (h : Sq b0 q v s H0) (hW : s.vm.Alike U.vm) (hq : ∀ a : Nat, a < H0.size → ¬ AA b0 a → H[a]? = H0[a]?) : Sq b0 q v U H := by
  obtain ⟨h1, h2, h3, h4, h5⟩ := h
  exact ⟨(h1.moved hW).kept hq, (h2.moved hW).kept hq, (h3.moved hW).kept hq, (h4.moved hW).kept hq, (h5.moved hW).kept hq⟩
/-- such a method's contract: it answers a number, and no cell changes -/
def MS (l : Launch) (y : MethodName) (bytes : ByteArray) (maxL : Nat) (ret : Option FieldType) (rm : Room) (b0 q v : Nat) (As : List Value) (r : Int32) : Prop := Met l y (.code y bytes maxL ret :: gtbl) rm (va_Pc As (fun U => Sq b0 q v U U.heap)) (va_Qi (S := Unit) (fun x _ => x = r) (fun _ _ => True) (fun _ => False)) 0 0 (fun _ => False)
abbrev FF : Nat → Prop := fun _ => False
theorem va_S.ff {A : Nat → Prop} {H0 H : Heap} {locs : List Loc} (h : va_S FF H0 H locs) : va_S A H0 H locs := ⟨h.1, fun q h1 _ => h.2.1 q h1 (fun f => f), fun l hl => (h.2.2 l hl).elim⟩
section XS
variable {p : Program} {l : Launch} {e : Env} {R : Room} {s : State} {m : MethodId} {args : Array Value} {below : List Frame} {meth : Method} {c : Code} {H : Heap} {locs : List Loc} {cells slots : Nat} {Q : State → Prop}
variable {b0 q v : Nat} {cc : ByteArray} {own : String} {nL pc : Nat} {ls : Array Slot} {rest st0 : List Value}
variable {y : MethodName} {bytes : ByteArray} {maxL n index : Nat} {ret : Option FieldType} {rm : Room} {As : List Value} {A0 : Nat → Prop} {r : Int32}
theorem s_runV (F : CallFix p m c cc nL s args gtbl own) (hq : Sq b0 q v s s.heap) (hS : va_S (AA b0) s.heap H locs) (hM : MS l y bytes maxL ret rm b0 q v (.ref q :: As) r) (hw : CW own index "java/lang/String" y bytes maxL ret n) (hrm : Rk rm R maxL cells slots) (hn : As.length = n) (hls : ls.size = nL) (hst : st0 = As.reverse ++ .ref q :: rest) (hcat : (rest.map fun v => v.category).sum ≤ 8) (hdg : decode cc pc = .ok (.invokevirtual index, 3)) : va_Run p l e R s m args below meth c H locs cells slots 0 0 (F0 m pc ls st0) rest (va_Qi (S := Unit) (fun x _ => x = r) (fun _ _ => True) FF (Value.ref q :: As).toArray) FF := by
  obtain ⟨cell, h1, h2, h3, -⟩ := hq.1.kept hS.2.1
  refine va_runV (As := As) (rest := rest) F hM (cwV n F.2.2.2.2 hw.1 rfl hrm.1 hrm.2.1 hw.2 hrm.2.2.1) ⟨?_, ⟨cell, h1, h2, h3⟩, ?_⟩ rfl hn hls hst (lv_room hcat) hdg hrm.2.2.2
  · intro a U g mk z
    exact ⟨z.1, z.2.go (U := U.calling g mk a) (Vm.Alike.refl U.vm) (fun _ _ _ => rfl)⟩
  · intro U hU hWm
    exact ⟨rfl, by show Sq b0 q v U U.heap; rw [hU]; exact hq.go hWm.alike (fun a h1 h2 => hS.2.1 a h1 h2)⟩
theorem s_runS (F : CallFix p m c cc nL s args gtbl own) (hq : Sq b0 q v s s.heap) (hS : va_S (AA b0) s.heap H locs) (hM : MS l y bytes maxL ret rm b0 q v As r) (hw : CS own index y bytes maxL ret n) (hrm : Rk rm R maxL cells slots) (hn : As.length = n) (hls : ls.size = nL) (hst : st0 = As.reverse ++ rest) (hcat : (rest.map fun v => v.category).sum ≤ 8) (hdg : decode cc pc = .ok (.invokestatic index, 3)) : va_Run p l e R s m args below meth c H locs cells slots 0 0 (F0 m pc ls st0) rest (va_Qi (S := Unit) (fun x _ => x = r) (fun _ _ => True) FF As.toArray) FF := by
  refine va_runS (As := As) (rest := rest) F hM (va_cwS n F.2.2.2.2 hw.1 rfl hrm.1 hrm.2.1 hw.2 hrm.2.2.1) ⟨?_, ?_⟩ rfl hn hls hst (lv_room hcat) hdg hrm.2.2.2
  · intro a U g mk z
    exact ⟨z.1, z.2.go (U := U.calling g mk a) (Vm.Alike.refl U.vm) (fun _ _ _ => rfl)⟩
  · intro U hU hWm
    exact ⟨rfl, by show Sq b0 q v U U.heap; rw [hU]; exact hq.go hWm.alike (fun a h1 h2 => hS.2.1 a h1 h2)⟩
/-- behind such a call -/
theorem s_call {a : Array Value} (hr : va_Run p l e R s m args below meth c H locs cells slots 0 0 (F0 m pc ls st0) rest (va_Qi (S := Unit) (fun x _ => x = r) (fun _ _ => True) FF a) FF) (hS : va_S A0 s.heap H locs) (kk : ∀ (H1 : Heap) (locs1 : List Loc), H.size ≤ H1.size → (∀ q : Nat, q < H.size → H1[q]? = H[q]?) → va_S A0 s.heap H1 locs1 → W p l e R s m args below meth c H1 locs1 cells slots Q (F0 m (pc + 3) ls (.int r :: rest))) : W p l e R s m args below meth c H locs cells slots Q (F0 m pc ls st0) :=
  va_calli hr hS (fun _ _ h => h.elim) (fun _ h => h.elim) (fun x _ _ H1 locs1 _ _ hp _ h1 h2 h3 => by
    subst hp
    exact kk H1 locs1 h1 (fun q hq => h2 q hq (fun f => f)) h3)
/-- ends -/
theorem s_ret {ty : FieldType} (hx : p.tables.exec = Jvm.exec) (hb : c.code = cc) (hlk : meth.locks = false) (hr : meth.sig.returnType = some ty) (hn : narrow ty (.int r) = .int r) (hS : va_S FF s.heap H locs) (hdg : decode cc pc = .ok (.ireturn, 1)) : W p l e R s m args below meth c H locs 0 0 (MQ below (va_Qi (S := Unit) (fun x _ => x = r) (fun _ _ => True) FF) args s 0 0 FF) (F0 m pc ls [.int r]) :=
  W.zret hx hb hr hn (fun t ht _ => ⟨⟨r, (), rfl, rfl, trivial⟩, hS.F ht⟩) hS.2.2 hdg (hlocks := hlk)
end XS
theorem s_entry {l : Launch} {y : MethodName} {bytes : ByteArray} {maxL : Nat} {ret : Option FieldType} {rm : Room} {b0 q v : Nat} {r : Int32} (av : List Value) (hy : plainName y.cls = true) (hlen : (lg_sl av).length ≤ maxL) (body : ∀ (p : Program) (e : Env) (s : State) (m : MethodId) (args : Array Value) (below : List Frame) (meth : Method) (c : Code) (ls : Array Slot), CallFix p m c bytes maxL s args gtbl y.cls → meth.locks = false → meth.sig.returnType = ret → Sq b0 q v s s.heap → lv_has ls maxL (lv_args 0 av) → W p l e rm s m args below meth c s.heap [] 0 0 (MQ below (va_Qi (S := Unit) (fun x _ => x = r) (fun _ _ => True) FF) args s 0 0 FF) (F0 m 0 ls [])) : MS l y bytes maxL ret rm b0 q v av r := by
  refine Met.ofW (cc := bytes) (maxL := maxL) (ret := ret) hy rfl ?_
  intro p e s m args below meth c s₁ B hml hv
  obtain ⟨hargs, hq⟩ := hv
  have hts := atoms_spec (ws := .code y bytes maxL ret :: gtbl) B.pre
  have hl := lv_entry av (n := maxL) hlen
  have hb := body p e s m args below meth c _ ⟨B.exec, B.bytes, hml, findClass_of_methodNamed B.named, fun w h => hts w (List.mem_cons_of_mem _ h)⟩ B.notSynchronized B.returns hq hl
  rw [← lg_entry_eq m av maxL, ← hargs] at hb
  exact hb
abbrev rs0 : Room := { frames := 0, cells := 0, slots := 0, locals := 0 }
theorem s_canEncode (l : Launch) (b0 q v : Nat) {x : Int32} (h : sgOk x) : MS l yJ1_canEncode_9a6ad cJ1_canEncode_9a6ad 1 (some .boolean) rs0 b0 q v [.int x] 1 := by
  refine s_entry [.int x] (by decide) (Nat.le_of_ble_eq_true rfl) (fun p e s m args below meth c ls F hlk hr hq hl => ?_)
  have hx := F.1
  have hb := F.2.1
  have hl : lv_has ls 1 [(0, .int x)] := hl
  refine lv_iload_n hx hb dJ1_canEncode_9a6ad_0 rfl (lv_at hl 0 rfl) ?_
  refine lv_if_lt hx hb dJ1_canEncode_9a6ad_1 (tgt := 15) rfl (fun hc => absurd hc (Int32.not_lt.mpr h.1)) (fun _ => ?_)
  refine lv_iload_n hx hb dJ1_canEncode_9a6ad_4 rfl (lv_at hl 0 rfl) ?_
  refine lv_sipush (v := 255) hx hb dJ1_canEncode_9a6ad_5 (by decide) ?_
  refine lv_icmp_gt hx hb dJ1_canEncode_9a6ad_8 (tgt := 15) rfl (fun hc => absurd hc (Int32.not_lt.mpr h.2)) (fun _ => ?_)
  refine lv_iconst (v := 1) hx hb dJ1_canEncode_9a6ad_11 (by decide) ?_
  refine lv_goto hx hb dJ1_canEncode_9a6ad_12 (tgt := 16) rfl ?_
  exact s_ret hx hb hlk hr rfl va_S.rf dJ1_canEncode_9a6ad_16
theorem s_coder (l : Launch) (b0 q v : Nat) : MS l yJ0_coder_7d493 cJ0_coder_7d493 1 (some .byte) rs0 b0 q v [.ref q] 0 := by
  refine s_entry [.ref q] (by decide) (Nat.le_of_ble_eq_true rfl) (fun p e s m args below meth c ls F hlk hr hq hl => ?_)
  have hx := F.1
  have hb := F.2.1
  have hl : lv_has ls 1 [(0, .ref q)] := hl
  refine va_gets (own := RJ0) hx hb hq.2.2.2.2 va_S.rf F.2.2.2.1 (F.2.2.2.2 _ (gc3 107 rfl rfl)) (fun _ h => h) dJ0_coder_7d493_0 ?_
  refine lv_if_eq hx hb dJ0_coder_7d493_3 (tgt := 13) rfl (fun hc => absurd hc (by decide)) (fun _ => ?_)
  refine lv_aload_n hx hb dJ0_coder_7d493_6 rfl (lv_at hl 0 rfl) ?_
  refine vk_getf (own := RJ0) hx hb hq.2.1 va_S.rf F.2.2.2.1 (F.2.2.2.2 _ (gc9 190 rfl rfl)) (fun _ h => h) dJ0_coder_7d493_7 ?_
  refine lv_goto hx hb dJ0_coder_7d493_10 (tgt := 14) rfl ?_
  exact s_ret hx hb hlk hr rfl va_S.rf dJ0_coder_7d493_14
theorem s_isLatin1 (l : Launch) (b0 q v : Nat) : MS l yJ0_isLatin1_aae02 cJ0_isLatin1_aae02 1 (some .boolean) rs0 b0 q v [.ref q] 1 := by
  refine s_entry [.ref q] (by decide) (Nat.le_of_ble_eq_true rfl) (fun p e s m args below meth c ls F hlk hr hq hl => ?_)
  have hx := F.1
  have hb := F.2.1
  have hl : lv_has ls 1 [(0, .ref q)] := hl
  refine va_gets (own := RJ0) hx hb hq.2.2.2.2 va_S.rf F.2.2.2.1 (F.2.2.2.2 _ (gc3 107 rfl rfl)) (fun _ h => h) dJ0_isLatin1_aae02_0 ?_
  refine lv_if_eq hx hb dJ0_isLatin1_aae02_3 (tgt := 17) rfl (fun hc => absurd hc (by decide)) (fun _ => ?_)
  refine lv_aload_n hx hb dJ0_isLatin1_aae02_6 rfl (lv_at hl 0 rfl) ?_
  refine vk_getf (own := RJ0) hx hb hq.2.1 va_S.rf F.2.2.2.1 (F.2.2.2.2 _ (gc9 190 rfl rfl)) (fun _ h => h) dJ0_isLatin1_aae02_7 ?_
  refine lv_if_ne hx hb dJ0_isLatin1_aae02_10 (tgt := 17) rfl (fun hc => absurd rfl hc) (fun _ => ?_)
  refine lv_iconst (v := 1) hx hb dJ0_isLatin1_aae02_13 (by decide) ?_
  refine lv_goto hx hb dJ0_isLatin1_aae02_14 (tgt := 18) rfl ?_
  exact s_ret hx hb hlk hr rfl va_S.rf dJ0_isLatin1_aae02_18
abbrev rs1 : Room := { frames := 1, cells := 0, slots := 0, locals := 20 }
theorem s_length (l : Launch) (b0 q v : Nat) : MS l yJ0_length_8abf5 cJ0_length_8abf5 1 (some .int) rs1 b0 q v [.ref q] 13 := by
  refine s_entry [.ref q] (by decide) (Nat.le_of_ble_eq_true rfl) (fun p e s m args below meth c ls F hlk hr hq hl => ?_)
  have hx := F.1
  have hb := F.2.1
  have hl : lv_has ls 1 [(0, .ref q)] := hl
  refine lv_aload_n hx hb dJ0_length_8abf5_0 rfl (lv_at hl 0 rfl) ?_
  refine vk_getf (own := RJ0) hx hb hq.2.2.1 va_S.rf F.2.2.2.1 (F.2.2.2.2 _ (gc9 191 rfl rfl)) (fun _ h => h) dJ0_length_8abf5_1 ?_
  refine va_tlen hx hb hq.2.2.2.1 va_S.rf (v := 13) rfl dJ0_length_8abf5_4 ?_
  refine lv_aload_n hx hb dJ0_length_8abf5_5 rfl (lv_at hl 0 rfl) ?_
  refine s_call (s_runV (As := []) F hq va_S.rf (s_coder l b0 q v) (CW.of yv_J0_coder_7d493 (gc3 113 rfl rfl)) ⟨rfl, rfl, ⟨by decide, by decide⟩, by decide, by decide⟩ rfl hl.1 rfl (by decide) dJ0_length_8abf5_6) (A0 := FF) va_S.rf (fun H locs h1 h2 hS => ?_)
  refine lv_ishr hx hb dJ0_length_8abf5_9 ?_
  exact s_ret (r := 13) hx hb hlk hr rfl hS dJ0_length_8abf5_10
theorem sg_eq {x y : Int32} (hm : y ∈ sgb) (hx : sgOk x) : y = x.toInt8.toInt32 ↔ y = x := by
  obtain ⟨j, hj, rfl⟩ : ∃ j : Nat, j ≤ 255 ∧ x = nI j := nI_of2 (M := 255) (n := 255) rfl (Int32.not_lt.mpr hx.1) hx.2
  have key : ∀ j : Nat, j < 256 → ∀ y ∈ sgb, (y = (nI j).toInt8.toInt32 ↔ y = nI j) := by decide +kernel
  exact key j (by omega) y hm
/-- from place k on -/
theorem s_loop {p : Program} {l : Launch} {e : Env} {s : State} {m : MethodId} {args : Array Value} {below : List Frame} {meth : Method} {c : Code} {b0 q v : Nat} (x : Int32) (hx0 : sgOk x) (F : CallFix p m c cJ1_indexOfChar_4cfef 6 s args gtbl RJ1) (hlk : meth.locks = false) (hr : meth.sig.returnType = some .int) (hq : Sq b0 q v s s.heap) : ∀ (bs : List Int32) (k : Nat) (ls : Array Slot), sgb.drop k = bs → k + bs.length = 13 → lv_has ls 6 [(5, .int (nI k)), (4, .int x.toInt8.toInt32), (3, .int 13), (0, .ref v)] → W p l e rs0 s m args below meth c s.heap [] 0 0 (MQ below (va_Qi (S := Unit) (fun z _ => z = sgF x bs k) (fun _ _ => True) FF) args s 0 0 FF) (F0 m 7 ls []) := by
  have hx := F.1
  have hb := F.2.1
  intro bs
  induction bs with
  | nil =>
    intro k ls hd hk hl
    refine lv_iload hx hb dJ1_indexOfChar_4cfef_7 (lv_at hl 0 rfl) ?_
    refine lv_iload_n hx hb dJ1_indexOfChar_4cfef_9 rfl (lv_at hl 2 rfl) ?_
    have hk13 : k = 13 := by simpa using hk
    subst hk13
    refine lv_icmp_ge hx hb dJ1_indexOfChar_4cfef_10 (tgt := 31) rfl (fun _ => ?_) (fun hc => absurd (by decide) hc)
    refine lv_iconst (v := -1) hx hb dJ1_indexOfChar_4cfef_31 (by decide) ?_
    exact s_ret hx hb hlk hr rfl va_S.rf dJ1_indexOfChar_4cfef_32
  | cons y ys ih =>
    intro k ls hd hk hl
    have hlt : k < 13 := by simp at hk; omega
    have hy : sgb.getD k 0 = y := by
      have h1 : (sgb.drop k)[0]? = some y := by rw [hd]; rfl
      rw [List.getElem?_drop] at h1
      simp only [Nat.add_zero] at h1
      rw [List.getD_eq_getElem?_getD, h1]
      rfl
    have hd2 : sgb.drop (k + 1) = ys := by rw [← List.drop_drop, hd]; rfl
    refine lv_iload hx hb dJ1_indexOfChar_4cfef_7 (lv_at hl 0 rfl) ?_
    refine lv_iload_n hx hb dJ1_indexOfChar_4cfef_9 rfl (lv_at hl 2 rfl) ?_
    refine lv_icmp_ge hx hb dJ1_indexOfChar_4cfef_10 (tgt := 31) rfl (fun hc => absurd hc (nI_ge (b := 13) hlt (by decide))) (fun _ => ?_)
    refine lv_aload_n hx hb dJ1_indexOfChar_4cfef_13 rfl (lv_at hl 3 rfl) ?_
    refine lv_iload hx hb dJ1_indexOfChar_4cfef_14 (lv_at hl 0 rfl) ?_
    refine va_tb hx hb hq.2.2.2.1 va_S.rf (vp_in_nI hlt (by decide)) (v := .int y) (by rw [nI_clamp (by omega), hy]) dJ1_indexOfChar_4cfef_16 ?_
    refine lv_iload hx hb dJ1_indexOfChar_4cfef_17 (lv_at hl 1 rfl) ?_
    have hmem : y ∈ sgb := by
      have h1 : y ∈ sgb.drop k := by rw [hd]; exact List.mem_cons_self
      exact List.mem_of_mem_drop h1
    have hyx : y = x.toInt8.toInt32 ↔ y = x := sg_eq hmem hx0
    refine lv_icmp_ne hx hb dJ1_indexOfChar_4cfef_19 (tgt := 25) rfl (fun hc => ?_) (fun hc => ?_)
    · refine lv_iinc (k := 0) (v := nI (k + 1)) hx hb dJ1_indexOfChar_4cfef_25 hl rfl (nI_succ k).symm (by decide) rfl (fun ls hl => ?_)
      refine lv_goto hx hb dJ1_indexOfChar_4cfef_28 (tgt := 7) rfl ?_
      have he : sgF x (y :: ys) k = sgF x ys (k + 1) := by
        show (if y = x then _ else _) = _
        rw [if_neg (fun h => hc (hyx.mpr h))]
      rw [he]
      exact ih (k + 1) ls hd2 (by simp at hk; omega) hl
    · have he : sgF x (y :: ys) k = nI k := by
        show (if y = x then _ else _) = _
        rw [if_pos (hyx.mp hc)]
      rw [he]
      refine lv_iload hx hb dJ1_indexOfChar_4cfef_22 (lv_at hl 0 rfl) ?_
      exact s_ret hx hb hlk hr rfl va_S.rf dJ1_indexOfChar_4cfef_24
theorem s_indexOfChar (l : Launch) (b0 q v : Nat) {x : Int32} (h : sgOk x) : MS l yJ1_indexOfChar_4cfef cJ1_indexOfChar_4cfef 6 (some .int) rs0 b0 q v [.ref v, .int x, .int 0, .int 13] (sgIx x) := by
  refine s_entry [.ref v, .int x, .int 0, .int 13] (by decide) (Nat.le_of_ble_eq_true rfl) (fun p e s m args below meth c ls F hlk hr hq hl => ?_)
  have hx := F.1
  have hb := F.2.1
  have hl : lv_has ls 6 [(0, .ref v), (1, .int x), (2, .int 0), (3, .int 13)] := hl
  refine lv_iload_n hx hb dJ1_indexOfChar_4cfef_0 rfl (lv_at hl 1 rfl) ?_
  refine lv_i2b hx hb dJ1_indexOfChar_4cfef_1 rfl ?_
  refine lv_istore hx hb dJ1_indexOfChar_4cfef_2 hl (by decide) rfl (fun ls hl => ?_)
  refine lv_iload_n hx hb dJ1_indexOfChar_4cfef_4 rfl (lv_at hl 3 rfl) ?_
  refine lv_istore hx hb dJ1_indexOfChar_4cfef_5 hl (by decide) rfl (fun ls hl => ?_)
  exact s_loop x h F hlk hr hq sgb 0 ls rfl rfl (lv_sub hl [0, 1, 5, 2] rfl)
abbrev rs2 : Room := { frames := 1, cells := 0, slots := 0, locals := 40 }
theorem s_indexOfL (l : Launch) (b0 q v : Nat) {x : Int32} (h : sgOk x) : MS l yJ1_indexOf_4cfef cJ1_indexOf_4cfef 4 (some .int) rs2 b0 q v [.ref v, .int x, .int 0, .int 13] (sgIx x) := by
  refine s_entry [.ref v, .int x, .int 0, .int 13] (by decide) (Nat.le_of_ble_eq_true rfl) (fun p e s m args below meth c ls F hlk hr hq hl => ?_)
  have hx := F.1
  have hb := F.2.1
  have hl : lv_has ls 4 [(0, .ref v), (1, .int x), (2, .int 0), (3, .int 13)] := hl
  refine lv_iload_n hx hb dJ1_indexOf_4cfef_0 rfl (lv_at hl 1 rfl) ?_
  refine s_call (s_runS (As := [.int x]) F hq va_S.rf (s_canEncode l b0 q v h) (CS.of yv_J1_canEncode_9a6ad (gc3 120 rfl rfl)) ⟨rfl, rfl, ⟨by decide, by decide⟩, by decide, by decide⟩ rfl hl.1 rfl (by decide) dJ1_indexOf_4cfef_1) (A0 := FF) va_S.rf (fun H locs h1 h2 hS => ?_)
  refine lv_if_ne hx hb dJ1_indexOf_4cfef_4 (tgt := 9) rfl (fun _ => ?_) (fun hc => absurd hc (by decide))
  refine lv_iload_n hx hb dJ1_indexOf_4cfef_9 rfl (lv_at hl 2 rfl) ?_
  refine lv_iconst (v := 0) hx hb dJ1_indexOf_4cfef_10 (by decide) ?_
  refine va_mmax (own := RJ1) hx hb (F.2.2.1.trans hl.1.symm) F.2.2.2.1 (F.2.2.2.2 _ (gc3 123 rfl rfl)) (F.2.2.2.2 _ (gc3 124 rfl rfl)) (F.2.2.2.2 _ (gc1 16 rfl rfl)) (F.2.2.2.2 _ (gc3 125 rfl rfl)) (by decide) (by decide) (by decide) (by decide) dJ1_indexOf_4cfef_11 ?_
  refine lv_istore_n hx hb dJ1_indexOf_4cfef_14 rfl hl (by decide) rfl (fun ls hl => ?_)
  refine lv_iload_n hx hb dJ1_indexOf_4cfef_15 rfl (lv_at hl 3 rfl) ?_
  refine lv_aload_n hx hb dJ1_indexOf_4cfef_16 rfl (lv_at hl 1 rfl) ?_
  refine va_tlen hx hb hq.2.2.2.1 hS.ff (v := 13) rfl dJ1_indexOf_4cfef_17 ?_
  refine va_mmin (own := RJ1) hx hb (F.2.2.1.trans hl.1.symm) F.2.2.2.1 (F.2.2.2.2 _ (gc3 126 rfl rfl)) (F.2.2.2.2 _ (gc3 127 rfl rfl)) (F.2.2.2.2 _ (gc1 16 rfl rfl)) (F.2.2.2.2 _ (gc3 128 rfl rfl)) (by decide) (by decide) (by decide) (by decide) dJ1_indexOf_4cfef_18 ?_
  refine lv_istore_n hx hb dJ1_indexOf_4cfef_21 rfl hl (by decide) rfl (fun ls hl => ?_)
  refine lv_iload_n hx hb dJ1_indexOf_4cfef_22 rfl (lv_at hl 1 rfl) ?_
  refine lv_iload_n hx hb dJ1_indexOf_4cfef_23 rfl (lv_at hl 0 rfl) ?_
  refine lv_icmp_lt hx hb dJ1_indexOf_4cfef_24 (tgt := 29) rfl (fun _ => ?_) (fun hc => absurd (by decide) hc)
  refine lv_aload_n hx hb dJ1_indexOf_4cfef_29 rfl (lv_at hl 2 rfl) ?_
  refine lv_iload_n hx hb dJ1_indexOf_4cfef_30 rfl (lv_at hl 3 rfl) ?_
  refine lv_iload_n hx hb dJ1_indexOf_4cfef_31 rfl (lv_at hl 1 rfl) ?_
  refine lv_iload_n hx hb dJ1_indexOf_4cfef_32 rfl (lv_at hl 0 rfl) ?_
  refine s_call (s_runS (As := [.ref v, .int x, .int 0, .int 13]) F hq hS.ff (s_indexOfChar l b0 q v h) (CS.of yv_J1_indexOfChar_4cfef (gc3 129 rfl rfl)) ⟨rfl, rfl, ⟨by decide, by decide⟩, by decide, by decide⟩ rfl hl.1 rfl (by decide) dJ1_indexOf_4cfef_33) (A0 := FF) hS (fun H locs h1 h2 hS => ?_)
  exact s_ret hx hb hlk hr rfl hS dJ1_indexOf_4cfef_36
abbrev rs3 : Room := { frames := 2, cells := 0, slots := 0, locals := 70 }
theorem s_indexOf2 (l : Launch) (b0 q v : Nat) {x : Int32} (h : sgOk x) : MS l yJ0_indexOf_7cf53 cJ0_indexOf_7cf53 3 (some .int) rs3 b0 q v [.ref q, .int x, .int 0] (sgIx x) := by
  refine s_entry [.ref q, .int x, .int 0] (by decide) (Nat.le_of_ble_eq_true rfl) (fun p e s m args below meth c ls F hlk hr hq hl => ?_)
  have hx := F.1
  have hb := F.2.1
  have hl : lv_has ls 3 [(0, .ref q), (1, .int x), (2, .int 0)] := hl
  refine lv_aload_n hx hb dJ0_indexOf_7cf53_0 rfl (lv_at hl 0 rfl) ?_
  refine s_call (s_runV (As := []) F hq va_S.rf (s_isLatin1 l b0 q v) (CW.of yv_J0_isLatin1_aae02 (gc3 103 rfl rfl)) ⟨rfl, rfl, ⟨by decide, by decide⟩, by decide, by decide⟩ rfl hl.1 rfl (by decide) dJ0_indexOf_7cf53_1) (A0 := FF) va_S.rf (fun H locs h1 h2 hS => ?_)
  refine lv_if_eq hx hb dJ0_indexOf_7cf53_4 (tgt := 23) rfl (fun hc => absurd hc (by decide)) (fun _ => ?_)
  refine lv_aload_n hx hb dJ0_indexOf_7cf53_7 rfl (lv_at hl 0 rfl) ?_
  refine vk_getf (own := RJ0) hx hb hq.2.2.1 hS.ff F.2.2.2.1 (F.2.2.2.2 _ (gc9 191 rfl rfl)) (fun _ h => h) dJ0_indexOf_7cf53_8 ?_
  refine lv_iload_n hx hb dJ0_indexOf_7cf53_11 rfl (lv_at hl 1 rfl) ?_
  refine lv_iload_n hx hb dJ0_indexOf_7cf53_12 rfl (lv_at hl 2 rfl) ?_
  refine lv_aload_n hx hb dJ0_indexOf_7cf53_13 rfl (lv_at hl 0 rfl) ?_
  refine s_call (s_runV (As := []) F hq hS.ff (s_length l b0 q v) (CW.of yv_J0_length_8abf5 (gc3 109 rfl rfl)) ⟨rfl, rfl, ⟨by decide, by decide⟩, by decide, by decide⟩ rfl hl.1 rfl (Nat.le_of_ble_eq_true rfl) dJ0_indexOf_7cf53_14) (A0 := FF) hS (fun H locs h1 h2 hS => ?_)
  refine s_call (s_runS (As := [.ref v, .int x, .int 0, .int 13]) F hq hS.ff (s_indexOfL l b0 q v h) (CS.of yv_J1_indexOf_4cfef (gc3 117 rfl rfl)) ⟨rfl, rfl, ⟨by decide, by decide⟩, by decide, by decide⟩ rfl hl.1 rfl (by decide) dJ0_indexOf_7cf53_17) (A0 := FF) hS (fun H locs h1 h2 hS => ?_)
  refine lv_goto hx hb dJ0_indexOf_7cf53_20 (tgt := 36) rfl ?_
  exact s_ret hx hb hlk hr rfl hS dJ0_indexOf_7cf53_36
abbrev rs4 : Room := { frames := 3, cells := 0, slots := 0, locals := 95 }
theorem s_indexOf (l : Launch) (b0 q v : Nat) {x : Int32} (h : sgOk x) : MS l yJ0_indexOf_0f7a4 cJ0_indexOf_0f7a4 2 (some .int) rs4 b0 q v [.ref q, .int x] (sgIx x) := by
  refine s_entry [.ref q, .int x] (by decide) (Nat.le_of_ble_eq_true rfl) (fun p e s m args below meth c ls F hlk hr hq hl => ?_)
  have hx := F.1
  have hb := F.2.1
  have hl : lv_has ls 2 [(0, .ref q), (1, .int x)] := hl
  refine lv_aload_n hx hb dJ0_indexOf_0f7a4_0 rfl (lv_at hl 0 rfl) ?_
  refine lv_iload_n hx hb dJ0_indexOf_0f7a4_1 rfl (lv_at hl 1 rfl) ?_
  refine lv_iconst (v := 0) hx hb dJ0_indexOf_0f7a4_2 (by decide) ?_
  refine s_call (s_runV (As := [.int x, .int 0]) F hq va_S.rf (s_indexOf2 l b0 q v h) (CW.of yv_J0_indexOf_7cf53 (gc3 99 rfl rfl)) ⟨rfl, rfl, ⟨by decide, by decide⟩, by decide, by decide⟩ rfl hl.1 rfl (by decide) dJ0_indexOf_0f7a4_3) (A0 := FF) va_S.rf (fun H locs h1 h2 hS => ?_)
  exact s_ret hx hb hlk hr rfl hS dJ0_indexOf_0f7a4_6
section XS2
variable {p : Program} {l : Launch} {e : Env} {R : Room} {s : State} {m : MethodId} {args : Array Value} {below : List Frame} {meth : Method} {c : Code} {H : Heap} {locs : List Loc} {cells slots : Nat} {Q : State → Prop}
variable {D : va_G} {tc : Nat → ClassId} {b0 : Nat} {cc : ByteArray} {nL pc : Nat} {ls : Array Slot} {rest : List Value} {σ : Mem} {G : Lay}
theorem x_sgix (C : Cx p s m args meth c cc RX8 nL D tc b0) (hW : Wd G D tc b0 σ H) (hS : va_S (AA b0) s.heap H locs) (hls : ls.size = nL) {adK adV : Nat → Nat} (hV : vk_S 1 [13] [sgb] adK adV (AA b0) s s.heap) (hZ : va_Z "java/lang/String" "COMPACT_STRINGS" "Z" (.int 1) (AA b0) s s.heap) {x : Int32} (hx : sgOk x) (hR : 4 ≤ R.frames ∧ 120 ≤ R.locals ∧ cells ≤ R.cells ∧ slots ≤ R.slots) (hcat : (rest.map fun v => v.category).sum ≤ 8) (hdg : decode cc pc = .ok (.invokevirtual 61, 3)) (kk : ∀ (H1 : Heap) (locs1 : List Loc), Wd G D tc b0 σ H1 → va_S (AA b0) s.heap H1 locs1 → W p l e R s m args below meth c H1 locs1 cells slots Q (F0 m (pc + 3) ls (.int (sgIx x) :: rest))) : W p l e R s m args below meth c H locs cells slots Q (F0 m pc ls (.int x :: .ref (adK 0) :: rest)) := by
  have h0 := hV.1 0 (by decide)
  have hq : Sq b0 (adK 0) (adV 0) s s.heap := ⟨h0.1, h0.2.1, h0.2.2.1, h0.2.2.2, hZ⟩
  refine s_call (s_runV (As := [.int x]) (rest := rest) ⟨C.1, C.2.1, C.2.2.1, C.2.2.2.1, C.2.2.2.2.1⟩ hq hS (s_indexOf l b0 (adK 0) (adV 0) hx) (CW.of yv_J0_indexOf_0f7a4 (gc3 95 rfl rfl)) ⟨rfl, rfl, ⟨hR.1, Nat.le_trans (by decide) hR.2.1⟩, hR.2.2⟩ rfl hls rfl hcat hdg) hS (fun H1 locs1 h1 h2 hS1 => ?_)
  exact kk H1 locs1 ⟨hW.1.kept (fun k z hk => h2 z.1 ((hW.1 k z hk).lt)), hW.2⟩ hS1
end XS2
