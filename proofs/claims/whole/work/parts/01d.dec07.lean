theorem dX12_ends_21 : decode cX12_ends 21 = .ok (.iaload, 1) := by decide +kernel
theorem dX12_ends_22 : decode cX12_ends 22 = .ok (.putfield 160, 3) := by decide +kernel
theorem dX12_ends_25 : decode cX12_ends 25 = .ok (.iload_n 1, 1) := by decide +kernel
theorem dX12_ends_26 : decode cX12_ends 26 = .ok (.iconst 1, 1) := by decide +kernel
theorem dX12_ends_27 : decode cX12_ends 27 = .ok (.if_icmp .ne 19, 3) := by decide +kernel
theorem dX12_ends_30 : decode cX12_ends 30 = .ok (.aload_n 0, 1) := by decide +kernel
theorem dX12_ends_31 : decode cX12_ends 31 = .ok (.aload_n 0, 1) := by decide +kernel
theorem dX12_ends_32 : decode cX12_ends 32 = .ok (.getfield 356, 3) := by decide +kernel
theorem dX12_ends_35 : decode cX12_ends 35 = .ok (.putfield 163, 3) := by decide +kernel
theorem dX12_ends_38 : decode cX12_ends 38 = .ok (.aload_n 0, 1) := by decide +kernel
theorem dX12_ends_39 : decode cX12_ends 39 = .ok (.aload_n 0, 1) := by decide +kernel
theorem dX12_ends_40 : decode cX12_ends 40 = .ok (.getfield 359, 3) := by decide +kernel
theorem dX12_ends_43 : decode cX12_ends 43 = .ok (.putfield 166, 3) := by decide +kernel
theorem dX12_ends_46 : decode cX12_ends 46 = .ok (.iconst 0, 1) := by decide +kernel
theorem dX12_ends_47 : decode cX12_ends 47 = .ok (.ireturn, 1) := by decide +kernel
theorem dX12_written_0 : decode cX12_written 0 = .ok (.aload_n 0, 1) := by decide +kernel
theorem dX12_written_1 : decode cX12_written 1 = .ok (.getfield 169, 3) := by decide +kernel
theorem dX12_written_4 : decode cX12_written 4 = .ok (.aload_n 0, 1) := by decide +kernel
theorem dX12_written_5 : decode cX12_written 5 = .ok (.getfield 437, 3) := by decide +kernel
theorem dX12_written_8 : decode cX12_written 8 = .ok (.iload_n 1, 1) := by decide +kernel
theorem dX12_written_9 : decode cX12_written 9 = .ok (.iastore, 1) := by decide +kernel
theorem dX12_written_10 : decode cX12_written 10 = .ok (.aload_n 0, 1) := by decide +kernel
theorem dX12_written_11 : decode cX12_written 11 = .ok (.getfield 172, 3) := by decide +kernel
theorem dX12_written_14 : decode cX12_written 14 = .ok (.aload_n 0, 1) := by decide +kernel
theorem dX12_written_15 : decode cX12_written 15 = .ok (.getfield 437, 3) := by decide +kernel
theorem dX12_written_18 : decode cX12_written 18 = .ok (.aload_n 0, 1) := by decide +kernel
theorem dX12_written_19 : decode cX12_written 19 = .ok (.getfield 129, 3) := by decide +kernel
theorem dX12_written_22 : decode cX12_written 22 = .ok (.iload_n 2, 1) := by decide +kernel
theorem dX12_written_23 : decode cX12_written 23 = .ok (.iaload, 1) := by decide +kernel
theorem dX12_written_24 : decode cX12_written 24 = .ok (.iastore, 1) := by decide +kernel
theorem dX12_written_25 : decode cX12_written 25 = .ok (.aload_n 0, 1) := by decide +kernel
theorem dX12_written_26 : decode cX12_written 26 = .ok (.getfield 175, 3) := by decide +kernel
theorem dX12_written_29 : decode cX12_written 29 = .ok (.aload_n 0, 1) := by decide +kernel
theorem dX12_written_30 : decode cX12_written 30 = .ok (.getfield 437, 3) := by decide +kernel
theorem dX12_written_33 : decode cX12_written 33 = .ok (.aload_n 0, 1) := by decide +kernel
theorem dX12_written_34 : decode cX12_written 34 = .ok (.getfield 126, 3) := by decide +kernel
theorem dX12_written_37 : decode cX12_written 37 = .ok (.iload_n 2, 1) := by decide +kernel
theorem dX12_written_38 : decode cX12_written 38 = .ok (.iaload, 1) := by decide +kernel
theorem dX12_written_39 : decode cX12_written 39 = .ok (.iastore, 1) := by decide +kernel
theorem dX12_written_40 : decode cX12_written 40 = .ok (.aload_n 0, 1) := by decide +kernel
theorem dX12_written_41 : decode cX12_written 41 = .ok (.getfield 178, 3) := by decide +kernel
theorem dX12_written_44 : decode cX12_written 44 = .ok (.aload_n 0, 1) := by decide +kernel
theorem dX12_written_45 : decode cX12_written 45 = .ok (.getfield 437, 3) := by decide +kernel
theorem dX12_written_48 : decode cX12_written 48 = .ok (.iload_n 3, 1) := by decide +kernel
theorem dX12_written_49 : decode cX12_written 49 = .ok (.iastore, 1) := by decide +kernel
theorem dX12_written_50 : decode cX12_written 50 = .ok (.aload_n 0, 1) := by decide +kernel
theorem dX12_written_51 : decode cX12_written 51 = .ok (.dup, 1) := by decide +kernel
theorem dX12_written_52 : decode cX12_written 52 = .ok (.getfield 437, 3) := by decide +kernel
theorem dX12_written_55 : decode cX12_written 55 = .ok (.iconst 1, 1) := by decide +kernel
theorem dX12_written_56 : decode cX12_written 56 = .ok (.iadd, 1) := by decide +kernel
theorem dX12_written_57 : decode cX12_written 57 = .ok (.putfield 437, 3) := by decide +kernel
theorem dX12_written_60 : decode cX12_written 60 = .ok (.return_, 1) := by decide +kernel
theorem dX12_inOrder_0 : decode cX12_inOrder 0 = .ok (.aload_n 0, 1) := by decide +kernel
theorem dX12_inOrder_1 : decode cX12_inOrder 1 = .ok (.iconst 0, 1) := by decide +kernel
theorem dX12_inOrder_2 : decode cX12_inOrder 2 = .ok (.putfield 440, 3) := by decide +kernel
theorem dX12_inOrder_5 : decode cX12_inOrder 5 = .ok (.iconst 0, 1) := by decide +kernel
theorem dX12_inOrder_6 : decode cX12_inOrder 6 = .ok (.istore 5, 2) := by decide +kernel
theorem dX12_inOrder_8 : decode cX12_inOrder 8 = .ok (.iload 5, 2) := by decide +kernel
theorem dX12_inOrder_10 : decode cX12_inOrder 10 = .ok (.aload_n 0, 1) := by decide +kernel
theorem dX12_inOrder_11 : decode cX12_inOrder 11 = .ok (.getfield 114, 3) := by decide +kernel
theorem dX12_inOrder_14 : decode cX12_inOrder 14 = .ok (.iload_n 1, 1) := by decide +kernel
theorem dX12_inOrder_15 : decode cX12_inOrder 15 = .ok (.iaload, 1) := by decide +kernel
theorem dX12_inOrder_16 : decode cX12_inOrder 16 = .ok (.if_icmp .ge 203, 3) := by decide +kernel
theorem dX12_inOrder_19 : decode cX12_inOrder 19 = .ok (.bipush 60, 2) := by decide +kernel
theorem dX12_inOrder_21 : decode cX12_inOrder 21 = .ok (.iload_n 1, 1) := by decide +kernel
theorem dX12_inOrder_22 : decode cX12_inOrder 22 = .ok (.imul, 1) := by decide +kernel
theorem dX12_inOrder_23 : decode cX12_inOrder 23 = .ok (.iload 5, 2) := by decide +kernel
theorem dX12_inOrder_25 : decode cX12_inOrder 25 = .ok (.iadd, 1) := by decide +kernel
theorem dX12_inOrder_26 : decode cX12_inOrder 26 = .ok (.istore 6, 2) := by decide +kernel
theorem dX12_inOrder_28 : decode cX12_inOrder 28 = .ok (.iload_n 2, 1) := by decide +kernel
theorem dX12_inOrder_29 : decode cX12_inOrder 29 = .ok (.ifCond .eq 14, 3) := by decide +kernel
theorem dX12_inOrder_32 : decode cX12_inOrder 32 = .ok (.aload_n 0, 1) := by decide +kernel
theorem dX12_inOrder_33 : decode cX12_inOrder 33 = .ok (.getfield 120, 3) := by decide +kernel
theorem dX12_inOrder_36 : decode cX12_inOrder 36 = .ok (.iload 6, 2) := by decide +kernel
theorem dX12_inOrder_38 : decode cX12_inOrder 38 = .ok (.iaload, 1) := by decide +kernel
theorem dX12_inOrder_39 : decode cX12_inOrder 39 = .ok (.iconst 2, 1) := by decide +kernel
theorem dX12_inOrder_40 : decode cX12_inOrder 40 = .ok (.if_icmp .eq 34, 3) := by decide +kernel
theorem dX12_inOrder_43 : decode cX12_inOrder 43 = .ok (.iload_n 3, 1) := by decide +kernel
theorem dX12_inOrder_44 : decode cX12_inOrder 44 = .ok (.ifCond .eq 14, 3) := by decide +kernel
theorem dX12_inOrder_47 : decode cX12_inOrder 47 = .ok (.aload_n 0, 1) := by decide +kernel
theorem dX12_inOrder_48 : decode cX12_inOrder 48 = .ok (.getfield 120, 3) := by decide +kernel
theorem dX12_inOrder_51 : decode cX12_inOrder 51 = .ok (.iload 6, 2) := by decide +kernel
theorem dX12_inOrder_53 : decode cX12_inOrder 53 = .ok (.iaload, 1) := by decide +kernel
theorem dX12_inOrder_54 : decode cX12_inOrder 54 = .ok (.iconst 1, 1) := by decide +kernel
theorem dX12_inOrder_55 : decode cX12_inOrder 55 = .ok (.if_icmp .eq 19, 3) := by decide +kernel
theorem dX12_inOrder_58 : decode cX12_inOrder 58 = .ok (.iload 4, 2) := by decide +kernel
theorem dX12_inOrder_60 : decode cX12_inOrder 60 = .ok (.ifCond .eq 18, 3) := by decide +kernel
theorem dX12_inOrder_63 : decode cX12_inOrder 63 = .ok (.aload_n 0, 1) := by decide +kernel
theorem dX12_inOrder_64 : decode cX12_inOrder 64 = .ok (.getfield 120, 3) := by decide +kernel
theorem dX12_inOrder_67 : decode cX12_inOrder 67 = .ok (.iload 6, 2) := by decide +kernel
theorem dX12_inOrder_69 : decode cX12_inOrder 69 = .ok (.iaload, 1) := by decide +kernel
theorem dX12_inOrder_70 : decode cX12_inOrder 70 = .ok (.iconst 3, 1) := by decide +kernel
theorem dX12_inOrder_71 : decode cX12_inOrder 71 = .ok (.if_icmp .ne 7, 3) := by decide +kernel
theorem dX12_inOrder_74 : decode cX12_inOrder 74 = .ok (.iconst 1, 1) := by decide +kernel
theorem dX12_inOrder_75 : decode cX12_inOrder 75 = .ok (.goto 4, 3) := by decide +kernel
theorem dX12_inOrder_78 : decode cX12_inOrder 78 = .ok (.iconst 0, 1) := by decide +kernel
theorem dX12_inOrder_79 : decode cX12_inOrder 79 = .ok (.istore 7, 2) := by decide +kernel
theorem dX12_inOrder_81 : decode cX12_inOrder 81 = .ok (.iload 7, 2) := by decide +kernel
theorem dX12_inOrder_83 : decode cX12_inOrder 83 = .ok (.ifCond .ne 6, 3) := by decide +kernel
theorem dX12_inOrder_86 : decode cX12_inOrder 86 = .ok (.goto 127, 3) := by decide +kernel
theorem dX12_inOrder_89 : decode cX12_inOrder 89 = .ok (.aload_n 0, 1) := by decide +kernel
theorem dX12_inOrder_90 : decode cX12_inOrder 90 = .ok (.getfield 440, 3) := by decide +kernel
theorem dX12_inOrder_93 : decode cX12_inOrder 93 = .ok (.istore 8, 2) := by decide +kernel
theorem dX12_inOrder_95 : decode cX12_inOrder 95 = .ok (.iload 8, 2) := by decide +kernel
theorem dX12_inOrder_97 : decode cX12_inOrder 97 = .ok (.ifCond .le 97, 3) := by decide +kernel
theorem dX12_inOrder_100 : decode cX12_inOrder 100 = .ok (.aload_n 0, 1) := by decide +kernel
theorem dX12_inOrder_101 : decode cX12_inOrder 101 = .ok (.getfield 129, 3) := by decide +kernel
theorem dX12_inOrder_104 : decode cX12_inOrder 104 = .ok (.aload_n 0, 1) := by decide +kernel
theorem dX12_inOrder_105 : decode cX12_inOrder 105 = .ok (.getfield 181, 3) := by decide +kernel
theorem dX12_inOrder_108 : decode cX12_inOrder 108 = .ok (.iload 8, 2) := by decide +kernel
theorem dX12_inOrder_110 : decode cX12_inOrder 110 = .ok (.iconst 1, 1) := by decide +kernel
theorem dX12_inOrder_111 : decode cX12_inOrder 111 = .ok (.isub, 1) := by decide +kernel
theorem dX12_inOrder_112 : decode cX12_inOrder 112 = .ok (.iaload, 1) := by decide +kernel
theorem dX12_inOrder_113 : decode cX12_inOrder 113 = .ok (.iaload, 1) := by decide +kernel
theorem dX12_inOrder_114 : decode cX12_inOrder 114 = .ok (.aload_n 0, 1) := by decide +kernel
theorem dX12_inOrder_115 : decode cX12_inOrder 115 = .ok (.getfield 129, 3) := by decide +kernel
theorem dX12_inOrder_118 : decode cX12_inOrder 118 = .ok (.iload 6, 2) := by decide +kernel
theorem dX12_inOrder_120 : decode cX12_inOrder 120 = .ok (.iaload, 1) := by decide +kernel
theorem dX12_inOrder_121 : decode cX12_inOrder 121 = .ok (.if_icmp .gt 51, 3) := by decide +kernel
theorem dX12_inOrder_124 : decode cX12_inOrder 124 = .ok (.aload_n 0, 1) := by decide +kernel
theorem dX12_inOrder_125 : decode cX12_inOrder 125 = .ok (.getfield 129, 3) := by decide +kernel
theorem dX12_inOrder_128 : decode cX12_inOrder 128 = .ok (.aload_n 0, 1) := by decide +kernel
theorem dX12_inOrder_129 : decode cX12_inOrder 129 = .ok (.getfield 181, 3) := by decide +kernel
theorem dX12_inOrder_132 : decode cX12_inOrder 132 = .ok (.iload 8, 2) := by decide +kernel
theorem dX12_inOrder_134 : decode cX12_inOrder 134 = .ok (.iconst 1, 1) := by decide +kernel
theorem dX12_inOrder_135 : decode cX12_inOrder 135 = .ok (.isub, 1) := by decide +kernel
theorem dX12_inOrder_136 : decode cX12_inOrder 136 = .ok (.iaload, 1) := by decide +kernel
theorem dX12_inOrder_137 : decode cX12_inOrder 137 = .ok (.iaload, 1) := by decide +kernel
theorem dX12_inOrder_138 : decode cX12_inOrder 138 = .ok (.aload_n 0, 1) := by decide +kernel
theorem dX12_inOrder_139 : decode cX12_inOrder 139 = .ok (.getfield 129, 3) := by decide +kernel
theorem dX12_inOrder_142 : decode cX12_inOrder 142 = .ok (.iload 6, 2) := by decide +kernel
theorem dX12_inOrder_144 : decode cX12_inOrder 144 = .ok (.iaload, 1) := by decide +kernel
theorem dX12_inOrder_145 : decode cX12_inOrder 145 = .ok (.if_icmp .ne 49, 3) := by decide +kernel
theorem dX12_inOrder_148 : decode cX12_inOrder 148 = .ok (.aload_n 0, 1) := by decide +kernel
theorem dX12_inOrder_149 : decode cX12_inOrder 149 = .ok (.getfield 126, 3) := by decide +kernel
theorem dX12_inOrder_152 : decode cX12_inOrder 152 = .ok (.aload_n 0, 1) := by decide +kernel
theorem dX12_inOrder_153 : decode cX12_inOrder 153 = .ok (.getfield 181, 3) := by decide +kernel
theorem dX12_inOrder_156 : decode cX12_inOrder 156 = .ok (.iload 8, 2) := by decide +kernel
theorem dX12_inOrder_158 : decode cX12_inOrder 158 = .ok (.iconst 1, 1) := by decide +kernel
theorem dX12_inOrder_159 : decode cX12_inOrder 159 = .ok (.isub, 1) := by decide +kernel
theorem dX12_inOrder_160 : decode cX12_inOrder 160 = .ok (.iaload, 1) := by decide +kernel
theorem dX12_inOrder_161 : decode cX12_inOrder 161 = .ok (.iaload, 1) := by decide +kernel
theorem dX12_inOrder_162 : decode cX12_inOrder 162 = .ok (.aload_n 0, 1) := by decide +kernel
theorem dX12_inOrder_163 : decode cX12_inOrder 163 = .ok (.getfield 126, 3) := by decide +kernel
theorem dX12_inOrder_166 : decode cX12_inOrder 166 = .ok (.iload 6, 2) := by decide +kernel
theorem dX12_inOrder_168 : decode cX12_inOrder 168 = .ok (.iaload, 1) := by decide +kernel
theorem dX12_inOrder_169 : decode cX12_inOrder 169 = .ok (.if_icmp .le 25, 3) := by decide +kernel
theorem dX12_inOrder_172 : decode cX12_inOrder 172 = .ok (.aload_n 0, 1) := by decide +kernel
theorem dX12_inOrder_173 : decode cX12_inOrder 173 = .ok (.getfield 181, 3) := by decide +kernel
theorem dX12_inOrder_176 : decode cX12_inOrder 176 = .ok (.iload 8, 2) := by decide +kernel
theorem dX12_inOrder_178 : decode cX12_inOrder 178 = .ok (.aload_n 0, 1) := by decide +kernel
theorem dX12_inOrder_179 : decode cX12_inOrder 179 = .ok (.getfield 181, 3) := by decide +kernel
theorem dX12_inOrder_182 : decode cX12_inOrder 182 = .ok (.iload 8, 2) := by decide +kernel
theorem dX12_inOrder_184 : decode cX12_inOrder 184 = .ok (.iconst 1, 1) := by decide +kernel
theorem dX12_inOrder_185 : decode cX12_inOrder 185 = .ok (.isub, 1) := by decide +kernel
theorem dX12_inOrder_186 : decode cX12_inOrder 186 = .ok (.iaload, 1) := by decide +kernel
theorem dX12_inOrder_187 : decode cX12_inOrder 187 = .ok (.iastore, 1) := by decide +kernel
theorem dX12_inOrder_188 : decode cX12_inOrder 188 = .ok (.iinc 8 (-1), 3) := by decide +kernel
theorem dX12_inOrder_191 : decode cX12_inOrder 191 = .ok (.goto (-96), 3) := by decide +kernel
theorem dX12_inOrder_194 : decode cX12_inOrder 194 = .ok (.aload_n 0, 1) := by decide +kernel
theorem dX12_inOrder_195 : decode cX12_inOrder 195 = .ok (.getfield 181, 3) := by decide +kernel
theorem dX12_inOrder_198 : decode cX12_inOrder 198 = .ok (.iload 8, 2) := by decide +kernel
theorem dX12_inOrder_200 : decode cX12_inOrder 200 = .ok (.iload 6, 2) := by decide +kernel
theorem dX12_inOrder_202 : decode cX12_inOrder 202 = .ok (.iastore, 1) := by decide +kernel
theorem dX12_inOrder_203 : decode cX12_inOrder 203 = .ok (.aload_n 0, 1) := by decide +kernel
theorem dX12_inOrder_204 : decode cX12_inOrder 204 = .ok (.dup, 1) := by decide +kernel
theorem dX12_inOrder_205 : decode cX12_inOrder 205 = .ok (.getfield 440, 3) := by decide +kernel
theorem dX12_inOrder_208 : decode cX12_inOrder 208 = .ok (.iconst 1, 1) := by decide +kernel
theorem dX12_inOrder_209 : decode cX12_inOrder 209 = .ok (.iadd, 1) := by decide +kernel
theorem dX12_inOrder_210 : decode cX12_inOrder 210 = .ok (.putfield 440, 3) := by decide +kernel
theorem dX12_inOrder_213 : decode cX12_inOrder 213 = .ok (.iinc 5 1, 3) := by decide +kernel
theorem dX12_inOrder_216 : decode cX12_inOrder 216 = .ok (.goto (-208), 3) := by decide +kernel
theorem dX12_inOrder_219 : decode cX12_inOrder 219 = .ok (.return_, 1) := by decide +kernel
theorem dX12_changed_0 : decode cX12_changed 0 = .ok (.iconst 0, 1) := by decide +kernel
theorem dX12_changed_1 : decode cX12_changed 1 = .ok (.istore_n 2, 1) := by decide +kernel
theorem dX12_changed_2 : decode cX12_changed 2 = .ok (.iconst 0, 1) := by decide +kernel
theorem dX12_changed_3 : decode cX12_changed 3 = .ok (.istore_n 3, 1) := by decide +kernel
theorem dX12_changed_4 : decode cX12_changed 4 = .ok (.iload_n 3, 1) := by decide +kernel
theorem dX12_changed_5 : decode cX12_changed 5 = .ok (.aload_n 0, 1) := by decide +kernel
theorem dX12_changed_6 : decode cX12_changed 6 = .ok (.getfield 23, 3) := by decide +kernel
theorem dX12_changed_9 : decode cX12_changed 9 = .ok (.aload_n 0, 1) := by decide +kernel
theorem dX12_changed_10 : decode cX12_changed 10 = .ok (.getfield 129, 3) := by decide +kernel
theorem dX12_changed_13 : decode cX12_changed 13 = .ok (.iload_n 1, 1) := by decide +kernel
theorem dX12_changed_14 : decode cX12_changed 14 = .ok (.iaload, 1) := by decide +kernel
theorem dX12_changed_15 : decode cX12_changed 15 = .ok (.iaload, 1) := by decide +kernel
theorem dX12_changed_16 : decode cX12_changed 16 = .ok (.if_icmp .ge 42, 3) := by decide +kernel
theorem dX12_changed_19 : decode cX12_changed 19 = .ok (.iload_n 2, 1) := by decide +kernel
theorem dX12_changed_20 : decode cX12_changed 20 = .ok (.aload_n 0, 1) := by decide +kernel
theorem dX12_changed_21 : decode cX12_changed 21 = .ok (.getfield 135, 3) := by decide +kernel
theorem dX12_changed_24 : decode cX12_changed 24 = .ok (.bipush 16, 2) := by decide +kernel
theorem dX12_changed_26 : decode cX12_changed 26 = .ok (.iload_n 1, 1) := by decide +kernel
theorem dX12_changed_27 : decode cX12_changed 27 = .ok (.imul, 1) := by decide +kernel
theorem dX12_changed_28 : decode cX12_changed 28 = .ok (.iload_n 3, 1) := by decide +kernel
theorem dX12_changed_29 : decode cX12_changed 29 = .ok (.iadd, 1) := by decide +kernel
theorem dX12_changed_30 : decode cX12_changed 30 = .ok (.iaload, 1) := by decide +kernel
theorem dX12_changed_31 : decode cX12_changed 31 = .ok (.aload_n 0, 1) := by decide +kernel
theorem dX12_changed_32 : decode cX12_changed 32 = .ok (.getfield 138, 3) := by decide +kernel
theorem dX12_changed_35 : decode cX12_changed 35 = .ok (.bipush 16, 2) := by decide +kernel
theorem dX12_changed_37 : decode cX12_changed 37 = .ok (.iload_n 1, 1) := by decide +kernel
theorem dX12_changed_38 : decode cX12_changed 38 = .ok (.imul, 1) := by decide +kernel
theorem dX12_changed_39 : decode cX12_changed 39 = .ok (.iload_n 3, 1) := by decide +kernel
theorem dX12_changed_40 : decode cX12_changed 40 = .ok (.iadd, 1) := by decide +kernel
theorem dX12_changed_41 : decode cX12_changed 41 = .ok (.iaload, 1) := by decide +kernel
theorem dX12_changed_42 : decode cX12_changed 42 = .ok (.if_icmp .eq 7, 3) := by decide +kernel
theorem dX12_changed_45 : decode cX12_changed 45 = .ok (.iconst 1, 1) := by decide +kernel
theorem dX12_changed_46 : decode cX12_changed 46 = .ok (.goto 4, 3) := by decide +kernel
theorem dX12_changed_49 : decode cX12_changed 49 = .ok (.iconst 0, 1) := by decide +kernel
theorem dX12_changed_50 : decode cX12_changed 50 = .ok (.iadd, 1) := by decide +kernel
theorem dX12_changed_51 : decode cX12_changed 51 = .ok (.istore_n 2, 1) := by decide +kernel
theorem dX12_changed_52 : decode cX12_changed 52 = .ok (.iinc 3 1, 3) := by decide +kernel
theorem dX12_changed_55 : decode cX12_changed 55 = .ok (.goto (-51), 3) := by decide +kernel
theorem dX12_changed_58 : decode cX12_changed 58 = .ok (.iload_n 2, 1) := by decide +kernel
theorem dX12_changed_59 : decode cX12_changed 59 = .ok (.ireturn, 1) := by decide +kernel
theorem dX12_hooks_0 : decode cX12_hooks 0 = .ok (.aload_n 0, 1) := by decide +kernel
theorem dX12_hooks_1 : decode cX12_hooks 1 = .ok (.getfield 129, 3) := by decide +kernel
theorem dX12_hooks_4 : decode cX12_hooks 4 = .ok (.iload_n 1, 1) := by decide +kernel
theorem dX12_hooks_5 : decode cX12_hooks 5 = .ok (.iaload, 1) := by decide +kernel
theorem dX12_hooks_6 : decode cX12_hooks 6 = .ok (.istore_n 3, 1) := by decide +kernel
theorem dX12_hooks_7 : decode cX12_hooks 7 = .ok (.iconst 0, 1) := by decide +kernel
theorem dX12_hooks_8 : decode cX12_hooks 8 = .ok (.istore 4, 2) := by decide +kernel
theorem dX12_hooks_10 : decode cX12_hooks 10 = .ok (.iload 4, 2) := by decide +kernel
theorem dX12_hooks_12 : decode cX12_hooks 12 = .ok (.aload_n 0, 1) := by decide +kernel
theorem dX12_hooks_13 : decode cX12_hooks 13 = .ok (.getfield 341, 3) := by decide +kernel
theorem dX12_hooks_16 : decode cX12_hooks 16 = .ok (.if_icmp .ge 90, 3) := by decide +kernel
theorem dX12_hooks_19 : decode cX12_hooks 19 = .ok (.aload_n 0, 1) := by decide +kernel
theorem dX12_hooks_20 : decode cX12_hooks 20 = .ok (.iconst 0, 1) := by decide +kernel
theorem dX12_hooks_21 : decode cX12_hooks 21 = .ok (.iload_n 3, 1) := by decide +kernel
theorem dX12_hooks_22 : decode cX12_hooks 22 = .ok (.iload 4, 2) := by decide +kernel
theorem dX12_hooks_24 : decode cX12_hooks 24 = .ok (.invokevirtual 315, 3) := by decide +kernel
theorem dX12_hooks_27 : decode cX12_hooks 27 = .ok (.ifCond .ne 6, 3) := by decide +kernel
theorem dX12_hooks_30 : decode cX12_hooks 30 = .ok (.goto 70, 3) := by decide +kernel
theorem dX12_hooks_33 : decode cX12_hooks 33 = .ok (.iconst 4, 1) := by decide +kernel
theorem dX12_hooks_34 : decode cX12_hooks 34 = .ok (.iload 4, 2) := by decide +kernel
theorem dX12_hooks_36 : decode cX12_hooks 36 = .ok (.imul, 1) := by decide +kernel
theorem dX12_hooks_37 : decode cX12_hooks 37 = .ok (.istore 5, 2) := by decide +kernel
theorem dX12_hooks_39 : decode cX12_hooks 39 = .ok (.iload 5, 2) := by decide +kernel
theorem dX12_hooks_41 : decode cX12_hooks 41 = .ok (.iconst 4, 1) := by decide +kernel
theorem dX12_hooks_42 : decode cX12_hooks 42 = .ok (.iload 4, 2) := by decide +kernel
theorem dX12_hooks_44 : decode cX12_hooks 44 = .ok (.imul, 1) := by decide +kernel
theorem dX12_hooks_45 : decode cX12_hooks 45 = .ok (.aload_n 0, 1) := by decide +kernel
theorem dX12_hooks_46 : decode cX12_hooks 46 = .ok (.getfield 26, 3) := by decide +kernel
theorem dX12_hooks_49 : decode cX12_hooks 49 = .ok (.iload 4, 2) := by decide +kernel
theorem dX12_hooks_51 : decode cX12_hooks 51 = .ok (.iaload, 1) := by decide +kernel
theorem dX12_hooks_52 : decode cX12_hooks 52 = .ok (.iadd, 1) := by decide +kernel
theorem dX12_hooks_53 : decode cX12_hooks 53 = .ok (.if_icmp .ge 47, 3) := by decide +kernel
theorem dX12_hooks_56 : decode cX12_hooks 56 = .ok (.aload_n 0, 1) := by decide +kernel
theorem dX12_hooks_57 : decode cX12_hooks 57 = .ok (.getfield 65, 3) := by decide +kernel
theorem dX12_hooks_60 : decode cX12_hooks 60 = .ok (.iload 5, 2) := by decide +kernel
theorem dX12_hooks_62 : decode cX12_hooks 62 = .ok (.iaload, 1) := by decide +kernel
theorem dX12_hooks_63 : decode cX12_hooks 63 = .ok (.iload_n 2, 1) := by decide +kernel
theorem dX12_hooks_64 : decode cX12_hooks 64 = .ok (.if_icmp .ne 30, 3) := by decide +kernel
theorem dX12_hooks_67 : decode cX12_hooks 67 = .ok (.aload_n 0, 1) := by decide +kernel
theorem dX12_hooks_68 : decode cX12_hooks 68 = .ok (.getfield 135, 3) := by decide +kernel
theorem dX12_hooks_71 : decode cX12_hooks 71 = .ok (.bipush 16, 2) := by decide +kernel
theorem dX12_hooks_73 : decode cX12_hooks 73 = .ok (.iload_n 1, 1) := by decide +kernel
theorem dX12_hooks_74 : decode cX12_hooks 74 = .ok (.imul, 1) := by decide +kernel
theorem dX12_hooks_75 : decode cX12_hooks 75 = .ok (.aload_n 0, 1) := by decide +kernel
theorem dX12_hooks_76 : decode cX12_hooks 76 = .ok (.getfield 68, 3) := by decide +kernel
theorem dX12_hooks_79 : decode cX12_hooks 79 = .ok (.iload 5, 2) := by decide +kernel
theorem dX12_hooks_81 : decode cX12_hooks 81 = .ok (.iaload, 1) := by decide +kernel
theorem dX12_hooks_82 : decode cX12_hooks 82 = .ok (.iadd, 1) := by decide +kernel
theorem dX12_hooks_83 : decode cX12_hooks 83 = .ok (.dup2, 1) := by decide +kernel
theorem dX12_hooks_84 : decode cX12_hooks 84 = .ok (.iaload, 1) := by decide +kernel
theorem dX12_hooks_85 : decode cX12_hooks 85 = .ok (.aload_n 0, 1) := by decide +kernel
theorem dX12_hooks_86 : decode cX12_hooks 86 = .ok (.getfield 71, 3) := by decide +kernel
theorem dX12_hooks_89 : decode cX12_hooks 89 = .ok (.iload 5, 2) := by decide +kernel
theorem dX12_hooks_91 : decode cX12_hooks 91 = .ok (.iaload, 1) := by decide +kernel
theorem dX12_hooks_92 : decode cX12_hooks 92 = .ok (.iadd, 1) := by decide +kernel
theorem dX12_hooks_93 : decode cX12_hooks 93 = .ok (.iastore, 1) := by decide +kernel
theorem dX12_hooks_94 : decode cX12_hooks 94 = .ok (.iinc 5 1, 3) := by decide +kernel
theorem dX12_hooks_97 : decode cX12_hooks 97 = .ok (.goto (-58), 3) := by decide +kernel
theorem dX12_hooks_100 : decode cX12_hooks 100 = .ok (.iinc 4 1, 3) := by decide +kernel
theorem dX12_hooks_103 : decode cX12_hooks 103 = .ok (.goto (-93), 3) := by decide +kernel
theorem dX12_hooks_106 : decode cX12_hooks 106 = .ok (.return_, 1) := by decide +kernel
theorem dX12_waitsFor_0 : decode cX12_waitsFor 0 = .ok (.bipush 16, 2) := by decide +kernel
theorem dX12_waitsFor_2 : decode cX12_waitsFor 2 = .ok (.aload_n 0, 1) := by decide +kernel
theorem dX12_waitsFor_3 : decode cX12_waitsFor 3 = .ok (.getfield 129, 3) := by decide +kernel
theorem dX12_waitsFor_6 : decode cX12_waitsFor 6 = .ok (.iload_n 1, 1) := by decide +kernel
theorem dX12_waitsFor_7 : decode cX12_waitsFor 7 = .ok (.iaload, 1) := by decide +kernel
theorem dX12_waitsFor_8 : decode cX12_waitsFor 8 = .ok (.imul, 1) := by decide +kernel
theorem dX12_waitsFor_9 : decode cX12_waitsFor 9 = .ok (.iload_n 2, 1) := by decide +kernel
theorem dX12_waitsFor_10 : decode cX12_waitsFor 10 = .ok (.iadd, 1) := by decide +kernel
theorem dX12_waitsFor_11 : decode cX12_waitsFor 11 = .ok (.istore_n 3, 1) := by decide +kernel
theorem dX12_waitsFor_12 : decode cX12_waitsFor 12 = .ok (.aload_n 0, 1) := by decide +kernel
theorem dX12_waitsFor_13 : decode cX12_waitsFor 13 = .ok (.getfield 135, 3) := by decide +kernel
theorem dX12_waitsFor_16 : decode cX12_waitsFor 16 = .ok (.bipush 16, 2) := by decide +kernel
theorem dX12_waitsFor_18 : decode cX12_waitsFor 18 = .ok (.iload_n 1, 1) := by decide +kernel
theorem dX12_waitsFor_19 : decode cX12_waitsFor 19 = .ok (.imul, 1) := by decide +kernel
theorem dX12_waitsFor_20 : decode cX12_waitsFor 20 = .ok (.iload_n 2, 1) := by decide +kernel
theorem dX12_waitsFor_21 : decode cX12_waitsFor 21 = .ok (.iadd, 1) := by decide +kernel
theorem dX12_waitsFor_22 : decode cX12_waitsFor 22 = .ok (.iaload, 1) := by decide +kernel
theorem dX12_waitsFor_23 : decode cX12_waitsFor 23 = .ok (.istore 4, 2) := by decide +kernel
theorem dX12_waitsFor_25 : decode cX12_waitsFor 25 = .ok (.aload_n 0, 1) := by decide +kernel
theorem dX12_waitsFor_26 : decode cX12_waitsFor 26 = .ok (.getfield 32, 3) := by decide +kernel
theorem dX12_waitsFor_29 : decode cX12_waitsFor 29 = .ok (.iload_n 3, 1) := by decide +kernel
theorem dX12_waitsFor_30 : decode cX12_waitsFor 30 = .ok (.iaload, 1) := by decide +kernel
theorem dX12_waitsFor_31 : decode cX12_waitsFor 31 = .ok (.iconst 4, 1) := by decide +kernel
theorem dX12_waitsFor_32 : decode cX12_waitsFor 32 = .ok (.if_icmp .ne 8, 3) := by decide +kernel
theorem dX12_waitsFor_35 : decode cX12_waitsFor 35 = .ok (.iload 4, 2) := by decide +kernel
theorem dX12_waitsFor_37 : decode cX12_waitsFor 37 = .ok (.ifCond .ne 5, 3) := by decide +kernel
theorem dX12_waitsFor_40 : decode cX12_waitsFor 40 = .ok (.iconst (-1), 1) := by decide +kernel
theorem dX12_waitsFor_41 : decode cX12_waitsFor 41 = .ok (.ireturn, 1) := by decide +kernel
theorem dX12_waitsFor_42 : decode cX12_waitsFor 42 = .ok (.aload_n 0, 1) := by decide +kernel
theorem dX12_waitsFor_43 : decode cX12_waitsFor 43 = .ok (.iload_n 1, 1) := by decide +kernel
theorem dX12_waitsFor_44 : decode cX12_waitsFor 44 = .ok (.bipush 60, 2) := by decide +kernel
theorem dX12_waitsFor_46 : decode cX12_waitsFor 46 = .ok (.idiv, 1) := by decide +kernel
theorem dX12_waitsFor_47 : decode cX12_waitsFor 47 = .ok (.aload_n 0, 1) := by decide +kernel
theorem dX12_waitsFor_48 : decode cX12_waitsFor 48 = .ok (.aload_n 0, 1) := by decide +kernel
theorem dX12_waitsFor_49 : decode cX12_waitsFor 49 = .ok (.getfield 35, 3) := by decide +kernel
theorem dX12_waitsFor_52 : decode cX12_waitsFor 52 = .ok (.iload_n 3, 1) := by decide +kernel
theorem dX12_waitsFor_53 : decode cX12_waitsFor 53 = .ok (.iaload, 1) := by decide +kernel
theorem dX12_waitsFor_54 : decode cX12_waitsFor 54 = .ok (.invokevirtual 353, 3) := by decide +kernel
theorem dX12_waitsFor_57 : decode cX12_waitsFor 57 = .ok (.iload 4, 2) := by decide +kernel
theorem dX12_waitsFor_59 : decode cX12_waitsFor 59 = .ok (.invokevirtual 383, 3) := by decide +kernel
theorem dX12_waitsFor_62 : decode cX12_waitsFor 62 = .ok (.istore 5, 2) := by decide +kernel
theorem dX12_waitsFor_64 : decode cX12_waitsFor 64 = .ok (.iload 5, 2) := by decide +kernel
theorem dX12_waitsFor_66 : decode cX12_waitsFor 66 = .ok (.ifCond .lt 35, 3) := by decide +kernel
theorem dX12_waitsFor_69 : decode cX12_waitsFor 69 = .ok (.iload 5, 2) := by decide +kernel
theorem dX12_waitsFor_71 : decode cX12_waitsFor 71 = .ok (.iload_n 1, 1) := by decide +kernel
theorem dX12_waitsFor_72 : decode cX12_waitsFor 72 = .ok (.if_icmp .eq 29, 3) := by decide +kernel
theorem dX12_waitsFor_75 : decode cX12_waitsFor 75 = .ok (.aload_n 0, 1) := by decide +kernel
theorem dX12_waitsFor_76 : decode cX12_waitsFor 76 = .ok (.getfield 120, 3) := by decide +kernel
theorem dX12_waitsFor_79 : decode cX12_waitsFor 79 = .ok (.iload 5, 2) := by decide +kernel
theorem dX12_waitsFor_81 : decode cX12_waitsFor 81 = .ok (.iaload, 1) := by decide +kernel
theorem dX12_waitsFor_82 : decode cX12_waitsFor 82 = .ok (.iconst 2, 1) := by decide +kernel
theorem dX12_waitsFor_83 : decode cX12_waitsFor 83 = .ok (.if_icmp .ne 18, 3) := by decide +kernel
theorem dX12_waitsFor_86 : decode cX12_waitsFor 86 = .ok (.aload_n 0, 1) := by decide +kernel
theorem dX12_waitsFor_87 : decode cX12_waitsFor 87 = .ok (.getfield 184, 3) := by decide +kernel
theorem dX12_waitsFor_90 : decode cX12_waitsFor 90 = .ok (.iload 5, 2) := by decide +kernel
theorem dX12_waitsFor_92 : decode cX12_waitsFor 92 = .ok (.baload, 1) := by decide +kernel
theorem dX12_waitsFor_93 : decode cX12_waitsFor 93 = .ok (.ifCond .ne 8, 3) := by decide +kernel
theorem dX12_waitsFor_96 : decode cX12_waitsFor 96 = .ok (.iload 5, 2) := by decide +kernel
theorem dX12_waitsFor_98 : decode cX12_waitsFor 98 = .ok (.goto 4, 3) := by decide +kernel
theorem dX12_waitsFor_101 : decode cX12_waitsFor 101 = .ok (.iconst (-1), 1) := by decide +kernel
theorem dX12_waitsFor_102 : decode cX12_waitsFor 102 = .ok (.ireturn, 1) := by decide +kernel
theorem dX12_waitsHow_0 : decode cX12_waitsHow 0 = .ok (.iconst 0, 1) := by decide +kernel
theorem dX12_waitsHow_1 : decode cX12_waitsHow 1 = .ok (.istore_n 2, 1) := by decide +kernel
theorem dX12_waitsHow_2 : decode cX12_waitsHow 2 = .ok (.iconst 0, 1) := by decide +kernel
theorem dX12_waitsHow_3 : decode cX12_waitsHow 3 = .ok (.istore_n 3, 1) := by decide +kernel
theorem dX12_waitsHow_4 : decode cX12_waitsHow 4 = .ok (.iload_n 3, 1) := by decide +kernel
theorem dX12_waitsHow_5 : decode cX12_waitsHow 5 = .ok (.aload_n 0, 1) := by decide +kernel
theorem dX12_waitsHow_6 : decode cX12_waitsHow 6 = .ok (.getfield 23, 3) := by decide +kernel
theorem dX12_waitsHow_9 : decode cX12_waitsHow 9 = .ok (.aload_n 0, 1) := by decide +kernel
theorem dX12_waitsHow_10 : decode cX12_waitsHow 10 = .ok (.getfield 129, 3) := by decide +kernel
theorem dX12_waitsHow_13 : decode cX12_waitsHow 13 = .ok (.iload_n 1, 1) := by decide +kernel
theorem dX12_waitsHow_14 : decode cX12_waitsHow 14 = .ok (.iaload, 1) := by decide +kernel
theorem dX12_waitsHow_15 : decode cX12_waitsHow 15 = .ok (.iaload, 1) := by decide +kernel
theorem dX12_waitsHow_16 : decode cX12_waitsHow 16 = .ok (.if_icmp .ge 62, 3) := by decide +kernel
theorem dX12_waitsHow_19 : decode cX12_waitsHow 19 = .ok (.aload_n 0, 1) := by decide +kernel
theorem dX12_waitsHow_20 : decode cX12_waitsHow 20 = .ok (.iload_n 1, 1) := by decide +kernel
theorem dX12_waitsHow_21 : decode cX12_waitsHow 21 = .ok (.iload_n 3, 1) := by decide +kernel
theorem dX12_waitsHow_22 : decode cX12_waitsHow 22 = .ok (.invokevirtual 443, 3) := by decide +kernel
theorem dX12_waitsHow_25 : decode cX12_waitsHow 25 = .ok (.ifCond .ge 6, 3) := by decide +kernel
theorem dX12_waitsHow_28 : decode cX12_waitsHow 28 = .ok (.goto 44, 3) := by decide +kernel
theorem dX12_waitsHow_31 : decode cX12_waitsHow 31 = .ok (.aload_n 0, 1) := by decide +kernel
theorem dX12_waitsHow_32 : decode cX12_waitsHow 32 = .ok (.getfield 44, 3) := by decide +kernel
theorem dX12_waitsHow_35 : decode cX12_waitsHow 35 = .ok (.bipush 16, 2) := by decide +kernel
theorem dX12_waitsHow_37 : decode cX12_waitsHow 37 = .ok (.aload_n 0, 1) := by decide +kernel
theorem dX12_waitsHow_38 : decode cX12_waitsHow 38 = .ok (.getfield 129, 3) := by decide +kernel
theorem dX12_waitsHow_41 : decode cX12_waitsHow 41 = .ok (.iload_n 1, 1) := by decide +kernel
theorem dX12_waitsHow_42 : decode cX12_waitsHow 42 = .ok (.iaload, 1) := by decide +kernel
theorem dX12_waitsHow_43 : decode cX12_waitsHow 43 = .ok (.imul, 1) := by decide +kernel
theorem dX12_waitsHow_44 : decode cX12_waitsHow 44 = .ok (.iload_n 3, 1) := by decide +kernel
theorem dX12_waitsHow_45 : decode cX12_waitsHow 45 = .ok (.iadd, 1) := by decide +kernel
theorem dX12_waitsHow_46 : decode cX12_waitsHow 46 = .ok (.iaload, 1) := by decide +kernel
theorem dX12_waitsHow_47 : decode cX12_waitsHow 47 = .ok (.iconst 2, 1) := by decide +kernel
theorem dX12_waitsHow_48 : decode cX12_waitsHow 48 = .ok (.iand, 1) := by decide +kernel
theorem dX12_waitsHow_49 : decode cX12_waitsHow 49 = .ok (.ifCond .eq 7, 3) := by decide +kernel
theorem dX12_waitsHow_52 : decode cX12_waitsHow 52 = .ok (.iconst 2, 1) := by decide +kernel
theorem dX12_waitsHow_53 : decode cX12_waitsHow 53 = .ok (.goto 4, 3) := by decide +kernel
theorem dX12_waitsHow_56 : decode cX12_waitsHow 56 = .ok (.iconst 1, 1) := by decide +kernel
theorem dX12_waitsHow_57 : decode cX12_waitsHow 57 = .ok (.istore 4, 2) := by decide +kernel
theorem dX12_waitsHow_59 : decode cX12_waitsHow 59 = .ok (.iload 4, 2) := by decide +kernel
theorem dX12_waitsHow_61 : decode cX12_waitsHow 61 = .ok (.iload_n 2, 1) := by decide +kernel
theorem dX12_waitsHow_62 : decode cX12_waitsHow 62 = .ok (.if_icmp .le 8, 3) := by decide +kernel
theorem dX12_waitsHow_65 : decode cX12_waitsHow 65 = .ok (.iload 4, 2) := by decide +kernel
theorem dX12_waitsHow_67 : decode cX12_waitsHow 67 = .ok (.goto 4, 3) := by decide +kernel
theorem dX12_waitsHow_70 : decode cX12_waitsHow 70 = .ok (.iload_n 2, 1) := by decide +kernel
theorem dX12_waitsHow_71 : decode cX12_waitsHow 71 = .ok (.istore_n 2, 1) := by decide +kernel
theorem dX12_waitsHow_72 : decode cX12_waitsHow 72 = .ok (.iinc 3 1, 3) := by decide +kernel
theorem dX12_waitsHow_75 : decode cX12_waitsHow 75 = .ok (.goto (-71), 3) := by decide +kernel
theorem dX12_waitsHow_78 : decode cX12_waitsHow 78 = .ok (.iload_n 2, 1) := by decide +kernel
theorem dX12_waitsHow_79 : decode cX12_waitsHow 79 = .ok (.ireturn, 1) := by decide +kernel
theorem dX12_insertAll_0 : decode cX12_insertAll 0 = .ok (.aload_n 0, 1) := by decide +kernel
theorem dX12_insertAll_1 : decode cX12_insertAll 1 = .ok (.iload_n 1, 1) := by decide +kernel
theorem dX12_insertAll_2 : decode cX12_insertAll 2 = .ok (.iconst 1, 1) := by decide +kernel
theorem dX12_insertAll_3 : decode cX12_insertAll 3 = .ok (.iconst 0, 1) := by decide +kernel
theorem dX12_insertAll_4 : decode cX12_insertAll 4 = .ok (.iconst 0, 1) := by decide +kernel
theorem dX12_insertAll_5 : decode cX12_insertAll 5 = .ok (.invokevirtual 446, 3) := by decide +kernel
theorem dX12_insertAll_8 : decode cX12_insertAll 8 = .ok (.iconst 0, 1) := by decide +kernel
theorem dX12_insertAll_9 : decode cX12_insertAll 9 = .ok (.istore_n 2, 1) := by decide +kernel
theorem dX12_insertAll_10 : decode cX12_insertAll 10 = .ok (.iload_n 2, 1) := by decide +kernel
theorem dX12_insertAll_11 : decode cX12_insertAll 11 = .ok (.sipush 240, 3) := by decide +kernel
theorem dX12_insertAll_14 : decode cX12_insertAll 14 = .ok (.if_icmp .ge 16, 3) := by decide +kernel
theorem dX12_insertAll_17 : decode cX12_insertAll 17 = .ok (.aload_n 0, 1) := by decide +kernel
theorem dX12_insertAll_18 : decode cX12_insertAll 18 = .ok (.getfield 184, 3) := by decide +kernel
theorem dX12_insertAll_21 : decode cX12_insertAll 21 = .ok (.iload_n 2, 1) := by decide +kernel
theorem dX12_insertAll_22 : decode cX12_insertAll 22 = .ok (.iconst 0, 1) := by decide +kernel
theorem dX12_insertAll_23 : decode cX12_insertAll 23 = .ok (.bastore, 1) := by decide +kernel
theorem dX12_insertAll_24 : decode cX12_insertAll 24 = .ok (.iinc 2 1, 3) := by decide +kernel
theorem dX12_insertAll_27 : decode cX12_insertAll 27 = .ok (.goto (-17), 3) := by decide +kernel
theorem dX12_insertAll_30 : decode cX12_insertAll 30 = .ok (.iconst 0, 1) := by decide +kernel
theorem dX12_insertAll_31 : decode cX12_insertAll 31 = .ok (.istore_n 2, 1) := by decide +kernel
theorem dX12_insertAll_32 : decode cX12_insertAll 32 = .ok (.iload_n 2, 1) := by decide +kernel
theorem dX12_insertAll_33 : decode cX12_insertAll 33 = .ok (.sipush 3840, 3) := by decide +kernel
theorem dX12_insertAll_36 : decode cX12_insertAll 36 = .ok (.if_icmp .ge 16, 3) := by decide +kernel
theorem dX12_insertAll_39 : decode cX12_insertAll 39 = .ok (.aload_n 0, 1) := by decide +kernel
theorem dX12_insertAll_40 : decode cX12_insertAll 40 = .ok (.getfield 187, 3) := by decide +kernel
theorem dX12_insertAll_43 : decode cX12_insertAll 43 = .ok (.iload_n 2, 1) := by decide +kernel
theorem dX12_insertAll_44 : decode cX12_insertAll 44 = .ok (.iconst 0, 1) := by decide +kernel
theorem dX12_insertAll_45 : decode cX12_insertAll 45 = .ok (.bastore, 1) := by decide +kernel
theorem dX12_insertAll_46 : decode cX12_insertAll 46 = .ok (.iinc 2 1, 3) := by decide +kernel
theorem dX12_insertAll_49 : decode cX12_insertAll 49 = .ok (.goto (-17), 3) := by decide +kernel
theorem dX12_insertAll_52 : decode cX12_insertAll 52 = .ok (.aload_n 0, 1) := by decide +kernel
theorem dX12_insertAll_53 : decode cX12_insertAll 53 = .ok (.getfield 440, 3) := by decide +kernel
theorem dX12_insertAll_56 : decode cX12_insertAll 56 = .ok (.istore_n 2, 1) := by decide +kernel
theorem dX12_insertAll_57 : decode cX12_insertAll 57 = .ok (.iload_n 2, 1) := by decide +kernel
theorem dX12_insertAll_58 : decode cX12_insertAll 58 = .ok (.ifCond .le 158, 3) := by decide +kernel
theorem dX12_insertAll_61 : decode cX12_insertAll 61 = .ok (.iconst (-1), 1) := by decide +kernel
theorem dX12_insertAll_62 : decode cX12_insertAll 62 = .ok (.istore_n 3, 1) := by decide +kernel
theorem dX12_insertAll_63 : decode cX12_insertAll 63 = .ok (.iconst 0, 1) := by decide +kernel
theorem dX12_insertAll_64 : decode cX12_insertAll 64 = .ok (.istore 4, 2) := by decide +kernel
theorem dX12_insertAll_66 : decode cX12_insertAll 66 = .ok (.iload 4, 2) := by decide +kernel
theorem dX12_insertAll_68 : decode cX12_insertAll 68 = .ok (.iconst 2, 1) := by decide +kernel
theorem dX12_insertAll_69 : decode cX12_insertAll 69 = .ok (.if_icmp .ge 74, 3) := by decide +kernel
theorem dX12_insertAll_72 : decode cX12_insertAll 72 = .ok (.iload_n 3, 1) := by decide +kernel
theorem dX12_insertAll_73 : decode cX12_insertAll 73 = .ok (.ifCond .ge 70, 3) := by decide +kernel
theorem dX12_insertAll_76 : decode cX12_insertAll 76 = .ok (.iconst 0, 1) := by decide +kernel
theorem dX12_insertAll_77 : decode cX12_insertAll 77 = .ok (.istore 5, 2) := by decide +kernel
theorem dX12_insertAll_79 : decode cX12_insertAll 79 = .ok (.iload 5, 2) := by decide +kernel
theorem dX12_insertAll_81 : decode cX12_insertAll 81 = .ok (.aload_n 0, 1) := by decide +kernel
theorem dX12_insertAll_82 : decode cX12_insertAll 82 = .ok (.getfield 440, 3) := by decide +kernel
theorem dX12_insertAll_85 : decode cX12_insertAll 85 = .ok (.if_icmp .ge 52, 3) := by decide +kernel
theorem dX12_insertAll_88 : decode cX12_insertAll 88 = .ok (.iload_n 3, 1) := by decide +kernel
theorem dX12_insertAll_89 : decode cX12_insertAll 89 = .ok (.ifCond .ge 48, 3) := by decide +kernel
theorem dX12_insertAll_92 : decode cX12_insertAll 92 = .ok (.aload_n 0, 1) := by decide +kernel
theorem dX12_insertAll_93 : decode cX12_insertAll 93 = .ok (.getfield 184, 3) := by decide +kernel
theorem dX12_insertAll_96 : decode cX12_insertAll 96 = .ok (.aload_n 0, 1) := by decide +kernel
theorem dX12_insertAll_97 : decode cX12_insertAll 97 = .ok (.getfield 181, 3) := by decide +kernel
theorem dX12_insertAll_100 : decode cX12_insertAll 100 = .ok (.iload 5, 2) := by decide +kernel
theorem dX12_insertAll_102 : decode cX12_insertAll 102 = .ok (.iaload, 1) := by decide +kernel
theorem dX12_insertAll_103 : decode cX12_insertAll 103 = .ok (.baload, 1) := by decide +kernel
theorem dX12_insertAll_104 : decode cX12_insertAll 104 = .ok (.ifCond .ne 27, 3) := by decide +kernel
theorem dX12_insertAll_107 : decode cX12_insertAll 107 = .ok (.aload_n 0, 1) := by decide +kernel
theorem dX12_insertAll_108 : decode cX12_insertAll 108 = .ok (.aload_n 0, 1) := by decide +kernel
theorem dX12_insertAll_109 : decode cX12_insertAll 109 = .ok (.getfield 181, 3) := by decide +kernel
theorem dX12_insertAll_112 : decode cX12_insertAll 112 = .ok (.iload 5, 2) := by decide +kernel
theorem dX12_insertAll_114 : decode cX12_insertAll 114 = .ok (.iaload, 1) := by decide +kernel
theorem dX12_insertAll_115 : decode cX12_insertAll 115 = .ok (.invokevirtual 450, 3) := by decide +kernel
theorem dX12_insertAll_118 : decode cX12_insertAll 118 = .ok (.iload 4, 2) := by decide +kernel
theorem dX12_insertAll_120 : decode cX12_insertAll 120 = .ok (.if_icmp .gt 11, 3) := by decide +kernel
theorem dX12_insertAll_123 : decode cX12_insertAll 123 = .ok (.aload_n 0, 1) := by decide +kernel
theorem dX12_insertAll_124 : decode cX12_insertAll 124 = .ok (.getfield 181, 3) := by decide +kernel
theorem dX12_insertAll_127 : decode cX12_insertAll 127 = .ok (.iload 5, 2) := by decide +kernel
theorem dX12_insertAll_129 : decode cX12_insertAll 129 = .ok (.iaload, 1) := by decide +kernel
theorem dX12_insertAll_130 : decode cX12_insertAll 130 = .ok (.istore_n 3, 1) := by decide +kernel
theorem dX12_insertAll_131 : decode cX12_insertAll 131 = .ok (.iinc 5 1, 3) := by decide +kernel
theorem dX12_insertAll_134 : decode cX12_insertAll 134 = .ok (.goto (-55), 3) := by decide +kernel
theorem dX12_insertAll_137 : decode cX12_insertAll 137 = .ok (.iinc 4 1, 3) := by decide +kernel
theorem dX12_insertAll_140 : decode cX12_insertAll 140 = .ok (.goto (-74), 3) := by decide +kernel
theorem dX12_insertAll_143 : decode cX12_insertAll 143 = .ok (.iload_n 3, 1) := by decide +kernel
theorem dX12_insertAll_144 : decode cX12_insertAll 144 = .ok (.ifCond .ge 56, 3) := by decide +kernel
theorem dX12_insertAll_147 : decode cX12_insertAll 147 = .ok (.aload_n 0, 1) := by decide +kernel
theorem dX12_insertAll_148 : decode cX12_insertAll 148 = .ok (.getfield 440, 3) := by decide +kernel
theorem dX12_insertAll_151 : decode cX12_insertAll 151 = .ok (.iconst 1, 1) := by decide +kernel
theorem dX12_insertAll_152 : decode cX12_insertAll 152 = .ok (.isub, 1) := by decide +kernel
theorem dX12_insertAll_153 : decode cX12_insertAll 153 = .ok (.istore 4, 2) := by decide +kernel
theorem dX12_insertAll_155 : decode cX12_insertAll 155 = .ok (.iload 4, 2) := by decide +kernel
theorem dX12_insertAll_157 : decode cX12_insertAll 157 = .ok (.ifCond .lt 36, 3) := by decide +kernel
theorem dX12_insertAll_160 : decode cX12_insertAll 160 = .ok (.aload_n 0, 1) := by decide +kernel
theorem dX12_insertAll_161 : decode cX12_insertAll 161 = .ok (.getfield 184, 3) := by decide +kernel
theorem dX12_insertAll_164 : decode cX12_insertAll 164 = .ok (.aload_n 0, 1) := by decide +kernel
theorem dX12_insertAll_165 : decode cX12_insertAll 165 = .ok (.getfield 181, 3) := by decide +kernel
theorem dX12_insertAll_168 : decode cX12_insertAll 168 = .ok (.iload 4, 2) := by decide +kernel
theorem dX12_insertAll_170 : decode cX12_insertAll 170 = .ok (.iaload, 1) := by decide +kernel
theorem dX12_insertAll_171 : decode cX12_insertAll 171 = .ok (.baload, 1) := by decide +kernel
theorem dX12_insertAll_172 : decode cX12_insertAll 172 = .ok (.ifCond .eq 7, 3) := by decide +kernel
theorem dX12_insertAll_175 : decode cX12_insertAll 175 = .ok (.iload_n 3, 1) := by decide +kernel
theorem dX12_insertAll_176 : decode cX12_insertAll 176 = .ok (.goto 10, 3) := by decide +kernel
theorem dX12_insertAll_179 : decode cX12_insertAll 179 = .ok (.aload_n 0, 1) := by decide +kernel
theorem dX12_insertAll_180 : decode cX12_insertAll 180 = .ok (.getfield 181, 3) := by decide +kernel
theorem dX12_insertAll_183 : decode cX12_insertAll 183 = .ok (.iload 4, 2) := by decide +kernel
theorem dX12_insertAll_185 : decode cX12_insertAll 185 = .ok (.iaload, 1) := by decide +kernel
theorem dX12_insertAll_186 : decode cX12_insertAll 186 = .ok (.istore_n 3, 1) := by decide +kernel
theorem dX12_insertAll_187 : decode cX12_insertAll 187 = .ok (.iinc 4 (-1), 3) := by decide +kernel
theorem dX12_insertAll_190 : decode cX12_insertAll 190 = .ok (.goto (-35), 3) := by decide +kernel
theorem dX12_insertAll_193 : decode cX12_insertAll 193 = .ok (.aload_n 0, 1) := by decide +kernel
theorem dX12_insertAll_194 : decode cX12_insertAll 194 = .ok (.iconst 4, 1) := by decide +kernel
theorem dX12_insertAll_195 : decode cX12_insertAll 195 = .ok (.iload_n 3, 1) := by decide +kernel
theorem dX12_insertAll_196 : decode cX12_insertAll 196 = .ok (.invokevirtual 453, 3) := by decide +kernel
theorem dX12_insertAll_199 : decode cX12_insertAll 199 = .ok (.ireturn, 1) := by decide +kernel
theorem dX12_insertAll_200 : decode cX12_insertAll 200 = .ok (.aload_n 0, 1) := by decide +kernel
theorem dX12_insertAll_201 : decode cX12_insertAll 201 = .ok (.iload_n 3, 1) := by decide +kernel
theorem dX12_insertAll_202 : decode cX12_insertAll 202 = .ok (.invokevirtual 456, 3) := by decide +kernel
theorem dX12_insertAll_205 : decode cX12_insertAll 205 = .ok (.ifCond .ne 5, 3) := by decide +kernel
theorem dX12_insertAll_208 : decode cX12_insertAll 208 = .ok (.iconst 0, 1) := by decide +kernel
theorem dX12_insertAll_209 : decode cX12_insertAll 209 = .ok (.ireturn, 1) := by decide +kernel
theorem dX12_insertAll_210 : decode cX12_insertAll 210 = .ok (.iinc 2 (-1), 3) := by decide +kernel
theorem dX12_insertAll_213 : decode cX12_insertAll 213 = .ok (.goto (-156), 3) := by decide +kernel
theorem dX12_insertAll_216 : decode cX12_insertAll 216 = .ok (.iconst 1, 1) := by decide +kernel
theorem dX12_insertAll_217 : decode cX12_insertAll 217 = .ok (.ireturn, 1) := by decide +kernel
theorem dX12_insert_0 : decode cX12_insert 0 = .ok (.aload_n 0, 1) := by decide +kernel
theorem dX12_insert_1 : decode cX12_insert 1 = .ok (.getfield 129, 3) := by decide +kernel
theorem dX12_insert_4 : decode cX12_insert 4 = .ok (.iload_n 1, 1) := by decide +kernel
theorem dX12_insert_5 : decode cX12_insert 5 = .ok (.iaload, 1) := by decide +kernel
theorem dX12_insert_6 : decode cX12_insert 6 = .ok (.istore_n 2, 1) := by decide +kernel
theorem dX12_insert_7 : decode cX12_insert 7 = .ok (.iconst 0, 1) := by decide +kernel
theorem dX12_insert_8 : decode cX12_insert 8 = .ok (.istore_n 3, 1) := by decide +kernel
theorem dX12_insert_9 : decode cX12_insert 9 = .ok (.iload_n 3, 1) := by decide +kernel
theorem dX12_insert_10 : decode cX12_insert 10 = .ok (.bipush 16, 2) := by decide +kernel
theorem dX12_insert_12 : decode cX12_insert 12 = .ok (.if_icmp .ge 79, 3) := by decide +kernel
theorem dX12_insert_15 : decode cX12_insert 15 = .ok (.aload_n 0, 1) := by decide +kernel
theorem dX12_insert_16 : decode cX12_insert 16 = .ok (.getfield 187, 3) := by decide +kernel
theorem dX12_insert_19 : decode cX12_insert 19 = .ok (.bipush 16, 2) := by decide +kernel
theorem dX12_insert_21 : decode cX12_insert 21 = .ok (.iload_n 1, 1) := by decide +kernel
theorem dX12_insert_22 : decode cX12_insert 22 = .ok (.imul, 1) := by decide +kernel
theorem dX12_insert_23 : decode cX12_insert 23 = .ok (.iload_n 3, 1) := by decide +kernel
theorem dX12_insert_24 : decode cX12_insert 24 = .ok (.iadd, 1) := by decide +kernel
theorem dX12_insert_25 : decode cX12_insert 25 = .ok (.iload_n 3, 1) := by decide +kernel
theorem dX12_insert_26 : decode cX12_insert 26 = .ok (.aload_n 0, 1) := by decide +kernel
theorem dX12_insert_27 : decode cX12_insert 27 = .ok (.getfield 23, 3) := by decide +kernel
theorem dX12_insert_30 : decode cX12_insert 30 = .ok (.iload_n 2, 1) := by decide +kernel
theorem dX12_insert_31 : decode cX12_insert 31 = .ok (.iaload, 1) := by decide +kernel
theorem dX12_insert_32 : decode cX12_insert 32 = .ok (.if_icmp .ge 16, 3) := by decide +kernel
theorem dX12_insert_35 : decode cX12_insert 35 = .ok (.aload_n 0, 1) := by decide +kernel
theorem dX12_insert_36 : decode cX12_insert 36 = .ok (.iload_n 1, 1) := by decide +kernel
theorem dX12_insert_37 : decode cX12_insert 37 = .ok (.iload_n 3, 1) := by decide +kernel
theorem dX12_insert_38 : decode cX12_insert 38 = .ok (.invokevirtual 443, 3) := by decide +kernel
theorem dX12_insert_41 : decode cX12_insert 41 = .ok (.ifCond .lt 7, 3) := by decide +kernel
theorem dX12_insert_44 : decode cX12_insert 44 = .ok (.iconst 1, 1) := by decide +kernel
theorem dX12_insert_45 : decode cX12_insert 45 = .ok (.goto 4, 3) := by decide +kernel
theorem dX12_insert_48 : decode cX12_insert 48 = .ok (.iconst 0, 1) := by decide +kernel
theorem dX12_insert_49 : decode cX12_insert 49 = .ok (.bastore, 1) := by decide +kernel
theorem dX12_insert_50 : decode cX12_insert 50 = .ok (.aload_n 0, 1) := by decide +kernel
theorem dX12_insert_51 : decode cX12_insert 51 = .ok (.getfield 190, 3) := by decide +kernel
theorem dX12_insert_54 : decode cX12_insert 54 = .ok (.iload_n 3, 1) := by decide +kernel
theorem dX12_insert_55 : decode cX12_insert 55 = .ok (.aload_n 0, 1) := by decide +kernel
theorem dX12_insert_56 : decode cX12_insert 56 = .ok (.getfield 187, 3) := by decide +kernel
theorem dX12_insert_59 : decode cX12_insert 59 = .ok (.bipush 16, 2) := by decide +kernel
theorem dX12_insert_61 : decode cX12_insert 61 = .ok (.iload_n 1, 1) := by decide +kernel
theorem dX12_insert_62 : decode cX12_insert 62 = .ok (.imul, 1) := by decide +kernel
theorem dX12_insert_63 : decode cX12_insert 63 = .ok (.iload_n 3, 1) := by decide +kernel
theorem dX12_insert_64 : decode cX12_insert 64 = .ok (.iadd, 1) := by decide +kernel
theorem dX12_insert_65 : decode cX12_insert 65 = .ok (.baload, 1) := by decide +kernel
theorem dX12_insert_66 : decode cX12_insert 66 = .ok (.ifCond .eq 7, 3) := by decide +kernel
theorem dX12_insert_69 : decode cX12_insert 69 = .ok (.iconst 0, 1) := by decide +kernel
theorem dX12_insert_70 : decode cX12_insert 70 = .ok (.goto 14, 3) := by decide +kernel
theorem dX12_insert_73 : decode cX12_insert 73 = .ok (.aload_n 0, 1) := by decide +kernel
theorem dX12_insert_74 : decode cX12_insert 74 = .ok (.getfield 135, 3) := by decide +kernel
theorem dX12_insert_77 : decode cX12_insert 77 = .ok (.bipush 16, 2) := by decide +kernel
theorem dX12_insert_79 : decode cX12_insert 79 = .ok (.iload_n 1, 1) := by decide +kernel
theorem dX12_insert_80 : decode cX12_insert 80 = .ok (.imul, 1) := by decide +kernel
theorem dX12_insert_81 : decode cX12_insert 81 = .ok (.iload_n 3, 1) := by decide +kernel
theorem dX12_insert_82 : decode cX12_insert 82 = .ok (.iadd, 1) := by decide +kernel
theorem dX12_insert_83 : decode cX12_insert 83 = .ok (.iaload, 1) := by decide +kernel
theorem dX12_insert_84 : decode cX12_insert 84 = .ok (.iastore, 1) := by decide +kernel
theorem dX12_insert_85 : decode cX12_insert 85 = .ok (.iinc 3 1, 3) := by decide +kernel
theorem dX12_insert_88 : decode cX12_insert 88 = .ok (.goto (-79), 3) := by decide +kernel
theorem dX12_insert_91 : decode cX12_insert 91 = .ok (.iconst 0, 1) := by decide +kernel
theorem dX12_insert_92 : decode cX12_insert 92 = .ok (.istore_n 3, 1) := by decide +kernel
theorem dX12_insert_93 : decode cX12_insert 93 = .ok (.iconst 0, 1) := by decide +kernel
theorem dX12_insert_94 : decode cX12_insert 94 = .ok (.istore 4, 2) := by decide +kernel
theorem dX12_insert_96 : decode cX12_insert 96 = .ok (.iload 4, 2) := by decide +kernel
theorem dX12_insert_98 : decode cX12_insert 98 = .ok (.aload_n 0, 1) := by decide +kernel
theorem dX12_insert_99 : decode cX12_insert 99 = .ok (.getfield 344, 3) := by decide +kernel
theorem dX12_insert_102 : decode cX12_insert 102 = .ok (.if_icmp .ge 33, 3) := by decide +kernel
theorem dX12_insert_105 : decode cX12_insert 105 = .ok (.iload_n 3, 1) := by decide +kernel
theorem dX12_insert_106 : decode cX12_insert 106 = .ok (.aload_n 0, 1) := by decide +kernel
theorem dX12_insert_107 : decode cX12_insert 107 = .ok (.getfield 77, 3) := by decide +kernel
theorem dX12_insert_110 : decode cX12_insert 110 = .ok (.iload 4, 2) := by decide +kernel
theorem dX12_insert_112 : decode cX12_insert 112 = .ok (.iaload, 1) := by decide +kernel
theorem dX12_insert_113 : decode cX12_insert 113 = .ok (.aload_n 0, 1) := by decide +kernel
theorem dX12_insert_114 : decode cX12_insert 114 = .ok (.getfield 123, 3) := by decide +kernel
theorem dX12_insert_117 : decode cX12_insert 117 = .ok (.iload_n 1, 1) := by decide +kernel
theorem dX12_insert_118 : decode cX12_insert 118 = .ok (.iaload, 1) := by decide +kernel
theorem dX12_insert_119 : decode cX12_insert 119 = .ok (.if_icmp .ne 7, 3) := by decide +kernel
theorem dX12_insert_122 : decode cX12_insert 122 = .ok (.iconst 1, 1) := by decide +kernel
theorem dX12_insert_123 : decode cX12_insert 123 = .ok (.goto 4, 3) := by decide +kernel
theorem dX12_insert_126 : decode cX12_insert 126 = .ok (.iconst 0, 1) := by decide +kernel
theorem dX12_insert_127 : decode cX12_insert 127 = .ok (.iadd, 1) := by decide +kernel
theorem dX12_insert_128 : decode cX12_insert 128 = .ok (.istore_n 3, 1) := by decide +kernel
theorem dX12_insert_129 : decode cX12_insert 129 = .ok (.iinc 4 1, 3) := by decide +kernel
theorem dX12_insert_132 : decode cX12_insert 132 = .ok (.goto (-36), 3) := by decide +kernel
theorem dX12_insert_135 : decode cX12_insert 135 = .ok (.iload_n 3, 1) := by decide +kernel
theorem dX12_insert_136 : decode cX12_insert 136 = .ok (.bipush 60, 2) := by decide +kernel
theorem dX12_insert_138 : decode cX12_insert 138 = .ok (.if_icmp .lt 10, 3) := by decide +kernel
theorem dX12_insert_141 : decode cX12_insert 141 = .ok (.aload_n 0, 1) := by decide +kernel
theorem dX12_insert_142 : decode cX12_insert 142 = .ok (.iconst 5, 1) := by decide +kernel
theorem dX12_insert_143 : decode cX12_insert 143 = .ok (.iload_n 1, 1) := by decide +kernel
theorem dX12_insert_144 : decode cX12_insert 144 = .ok (.invokevirtual 453, 3) := by decide +kernel
theorem dX12_insert_147 : decode cX12_insert 147 = .ok (.ireturn, 1) := by decide +kernel
theorem dX12_insert_148 : decode cX12_insert 148 = .ok (.aload_n 0, 1) := by decide +kernel
theorem dX12_insert_149 : decode cX12_insert 149 = .ok (.aload_n 0, 1) := by decide +kernel
theorem dX12_insert_150 : decode cX12_insert 150 = .ok (.getfield 123, 3) := by decide +kernel
theorem dX12_insert_153 : decode cX12_insert 153 = .ok (.iload_n 1, 1) := by decide +kernel
theorem dX12_insert_154 : decode cX12_insert 154 = .ok (.iaload, 1) := by decide +kernel
theorem dX12_insert_155 : decode cX12_insert 155 = .ok (.aload_n 0, 1) := by decide +kernel
theorem dX12_insert_156 : decode cX12_insert 156 = .ok (.getfield 126, 3) := by decide +kernel
theorem dX12_insert_159 : decode cX12_insert 159 = .ok (.iload_n 1, 1) := by decide +kernel
theorem dX12_insert_160 : decode cX12_insert 160 = .ok (.iaload, 1) := by decide +kernel
theorem dX12_insert_161 : decode cX12_insert 161 = .ok (.iload_n 2, 1) := by decide +kernel
theorem dX12_insert_162 : decode cX12_insert 162 = .ok (.aload_n 0, 1) := by decide +kernel
theorem dX12_insert_163 : decode cX12_insert 163 = .ok (.getfield 190, 3) := by decide +kernel
theorem dX12_insert_166 : decode cX12_insert 166 = .ok (.iconst 0, 1) := by decide +kernel
theorem dX12_insert_167 : decode cX12_insert 167 = .ok (.invokevirtual 430, 3) := by decide +kernel
theorem dX12_insert_170 : decode cX12_insert 170 = .ok (.ifCond .eq 10, 3) := by decide +kernel
theorem dX12_insert_173 : decode cX12_insert 173 = .ok (.aload_n 0, 1) := by decide +kernel
theorem dX12_insert_174 : decode cX12_insert 174 = .ok (.iconst 1, 1) := by decide +kernel
theorem dX12_insert_175 : decode cX12_insert 175 = .ok (.iload_n 1, 1) := by decide +kernel
theorem dX12_insert_176 : decode cX12_insert 176 = .ok (.invokevirtual 453, 3) := by decide +kernel
theorem dX12_insert_179 : decode cX12_insert 179 = .ok (.ireturn, 1) := by decide +kernel
theorem dX12_insert_180 : decode cX12_insert 180 = .ok (.aload_n 0, 1) := by decide +kernel
theorem dX12_insert_181 : decode cX12_insert 181 = .ok (.getfield 77, 3) := by decide +kernel
theorem dX12_insert_184 : decode cX12_insert 184 = .ok (.aload_n 0, 1) := by decide +kernel
theorem dX12_insert_185 : decode cX12_insert 185 = .ok (.getfield 344, 3) := by decide +kernel
theorem dX12_insert_188 : decode cX12_insert 188 = .ok (.aload_n 0, 1) := by decide +kernel
theorem dX12_insert_189 : decode cX12_insert 189 = .ok (.getfield 123, 3) := by decide +kernel
theorem dX12_insert_192 : decode cX12_insert 192 = .ok (.iload_n 1, 1) := by decide +kernel
theorem dX12_insert_193 : decode cX12_insert 193 = .ok (.iaload, 1) := by decide +kernel
theorem dX12_insert_194 : decode cX12_insert 194 = .ok (.iastore, 1) := by decide +kernel
theorem dX12_insert_195 : decode cX12_insert 195 = .ok (.aload_n 0, 1) := by decide +kernel
theorem dX12_insert_196 : decode cX12_insert 196 = .ok (.getfield 80, 3) := by decide +kernel
theorem dX12_insert_199 : decode cX12_insert 199 = .ok (.aload_n 0, 1) := by decide +kernel
theorem dX12_insert_200 : decode cX12_insert 200 = .ok (.getfield 344, 3) := by decide +kernel
theorem dX12_insert_203 : decode cX12_insert 203 = .ok (.aload_n 0, 1) := by decide +kernel
theorem dX12_insert_204 : decode cX12_insert 204 = .ok (.getfield 126, 3) := by decide +kernel
theorem dX12_insert_207 : decode cX12_insert 207 = .ok (.iload_n 1, 1) := by decide +kernel
theorem dX12_insert_208 : decode cX12_insert 208 = .ok (.iaload, 1) := by decide +kernel
theorem dX12_insert_209 : decode cX12_insert 209 = .ok (.iastore, 1) := by decide +kernel
theorem dX12_insert_210 : decode cX12_insert 210 = .ok (.aload_n 0, 1) := by decide +kernel
theorem dX12_insert_211 : decode cX12_insert 211 = .ok (.getfield 83, 3) := by decide +kernel
theorem dX12_insert_214 : decode cX12_insert 214 = .ok (.aload_n 0, 1) := by decide +kernel
theorem dX12_insert_215 : decode cX12_insert 215 = .ok (.getfield 344, 3) := by decide +kernel
theorem dX12_insert_218 : decode cX12_insert 218 = .ok (.iload_n 2, 1) := by decide +kernel
theorem dX12_insert_219 : decode cX12_insert 219 = .ok (.iastore, 1) := by decide +kernel
theorem dX12_insert_220 : decode cX12_insert 220 = .ok (.aload_n 0, 1) := by decide +kernel
theorem dX12_insert_221 : decode cX12_insert 221 = .ok (.getfield 86, 3) := by decide +kernel
theorem dX12_insert_224 : decode cX12_insert 224 = .ok (.aload_n 0, 1) := by decide +kernel
theorem dX12_insert_225 : decode cX12_insert 225 = .ok (.getfield 344, 3) := by decide +kernel
theorem dX12_insert_228 : decode cX12_insert 228 = .ok (.iconst 1, 1) := by decide +kernel
theorem dX12_insert_229 : decode cX12_insert 229 = .ok (.iastore, 1) := by decide +kernel
theorem dX12_insert_230 : decode cX12_insert 230 = .ok (.iconst 0, 1) := by decide +kernel
theorem dX12_insert_231 : decode cX12_insert 231 = .ok (.istore 4, 2) := by decide +kernel
theorem dX12_insert_233 : decode cX12_insert 233 = .ok (.iload 4, 2) := by decide +kernel
theorem dX12_insert_235 : decode cX12_insert 235 = .ok (.bipush 16, 2) := by decide +kernel
theorem dX12_insert_237 : decode cX12_insert 237 = .ok (.if_icmp .ge 31, 3) := by decide +kernel
theorem dX12_insert_240 : decode cX12_insert 240 = .ok (.aload_n 0, 1) := by decide +kernel
theorem dX12_insert_241 : decode cX12_insert 241 = .ok (.getfield 89, 3) := by decide +kernel
theorem dX12_insert_244 : decode cX12_insert 244 = .ok (.bipush 16, 2) := by decide +kernel
theorem dX12_insert_246 : decode cX12_insert 246 = .ok (.aload_n 0, 1) := by decide +kernel
theorem dX12_insert_247 : decode cX12_insert 247 = .ok (.getfield 344, 3) := by decide +kernel
theorem dX12_insert_250 : decode cX12_insert 250 = .ok (.imul, 1) := by decide +kernel
theorem dX12_insert_251 : decode cX12_insert 251 = .ok (.iload 4, 2) := by decide +kernel
theorem dX12_insert_253 : decode cX12_insert 253 = .ok (.iadd, 1) := by decide +kernel
theorem dX12_insert_254 : decode cX12_insert 254 = .ok (.aload_n 0, 1) := by decide +kernel
theorem dX12_insert_255 : decode cX12_insert 255 = .ok (.getfield 190, 3) := by decide +kernel
theorem dX12_insert_258 : decode cX12_insert 258 = .ok (.iload 4, 2) := by decide +kernel
theorem dX12_insert_260 : decode cX12_insert 260 = .ok (.iaload, 1) := by decide +kernel
theorem dX12_insert_261 : decode cX12_insert 261 = .ok (.iastore, 1) := by decide +kernel
theorem dX12_insert_262 : decode cX12_insert 262 = .ok (.iinc 4 1, 3) := by decide +kernel
theorem dX12_insert_265 : decode cX12_insert 265 = .ok (.goto (-32), 3) := by decide +kernel
theorem dX12_insert_268 : decode cX12_insert 268 = .ok (.aload_n 0, 1) := by decide +kernel
theorem dX12_insert_269 : decode cX12_insert 269 = .ok (.dup, 1) := by decide +kernel
theorem dX12_insert_270 : decode cX12_insert 270 = .ok (.getfield 344, 3) := by decide +kernel
theorem dX12_insert_273 : decode cX12_insert 273 = .ok (.iconst 1, 1) := by decide +kernel
theorem dX12_insert_274 : decode cX12_insert 274 = .ok (.iadd, 1) := by decide +kernel
theorem dX12_insert_275 : decode cX12_insert 275 = .ok (.putfield 344, 3) := by decide +kernel
theorem dX12_insert_278 : decode cX12_insert 278 = .ok (.aload_n 0, 1) := by decide +kernel
theorem dX12_insert_279 : decode cX12_insert 279 = .ok (.getfield 184, 3) := by decide +kernel
theorem dX12_insert_282 : decode cX12_insert 282 = .ok (.iload_n 1, 1) := by decide +kernel
theorem dX12_insert_283 : decode cX12_insert 283 = .ok (.iconst 1, 1) := by decide +kernel
theorem dX12_insert_284 : decode cX12_insert 284 = .ok (.bastore, 1) := by decide +kernel
theorem dX12_insert_285 : decode cX12_insert 285 = .ok (.aload_n 0, 1) := by decide +kernel
theorem dX12_insert_286 : decode cX12_insert 286 = .ok (.iconst 0, 1) := by decide +kernel
theorem dX12_insert_287 : decode cX12_insert 287 = .ok (.iload_n 1, 1) := by decide +kernel
theorem dX12_insert_288 : decode cX12_insert 288 = .ok (.iconst 0, 1) := by decide +kernel
theorem dX12_insert_289 : decode cX12_insert 289 = .ok (.invokevirtual 459, 3) := by decide +kernel
theorem dX12_insert_292 : decode cX12_insert 292 = .ok (.iconst 1, 1) := by decide +kernel
theorem dX12_insert_293 : decode cX12_insert 293 = .ok (.ireturn, 1) := by decide +kernel
theorem dX12_changeAll_0 : decode cX12_changeAll 0 = .ok (.aload_n 0, 1) := by decide +kernel
theorem dX12_changeAll_1 : decode cX12_changeAll 1 = .ok (.iload_n 1, 1) := by decide +kernel
theorem dX12_changeAll_2 : decode cX12_changeAll 2 = .ok (.iconst 1, 1) := by decide +kernel
theorem dX12_changeAll_3 : decode cX12_changeAll 3 = .ok (.iconst 1, 1) := by decide +kernel
theorem dX12_changeAll_4 : decode cX12_changeAll 4 = .ok (.iconst 0, 1) := by decide +kernel
theorem dX12_changeAll_5 : decode cX12_changeAll 5 = .ok (.invokevirtual 446, 3) := by decide +kernel
theorem dX12_changeAll_8 : decode cX12_changeAll 8 = .ok (.iconst 0, 1) := by decide +kernel
theorem dX12_changeAll_9 : decode cX12_changeAll 9 = .ok (.istore_n 2, 1) := by decide +kernel
theorem dX12_changeAll_10 : decode cX12_changeAll 10 = .ok (.iload_n 2, 1) := by decide +kernel
theorem dX12_changeAll_11 : decode cX12_changeAll 11 = .ok (.aload_n 0, 1) := by decide +kernel
theorem dX12_changeAll_12 : decode cX12_changeAll 12 = .ok (.getfield 440, 3) := by decide +kernel
theorem dX12_changeAll_15 : decode cX12_changeAll 15 = .ok (.if_icmp .ge 97, 3) := by decide +kernel
theorem dX12_changeAll_18 : decode cX12_changeAll 18 = .ok (.aload_n 0, 1) := by decide +kernel
theorem dX12_changeAll_19 : decode cX12_changeAll 19 = .ok (.getfield 181, 3) := by decide +kernel
theorem dX12_changeAll_22 : decode cX12_changeAll 22 = .ok (.iload_n 2, 1) := by decide +kernel
theorem dX12_changeAll_23 : decode cX12_changeAll 23 = .ok (.iaload, 1) := by decide +kernel
theorem dX12_changeAll_24 : decode cX12_changeAll 24 = .ok (.istore_n 3, 1) := by decide +kernel
theorem dX12_changeAll_25 : decode cX12_changeAll 25 = .ok (.iconst 0, 1) := by decide +kernel
theorem dX12_changeAll_26 : decode cX12_changeAll 26 = .ok (.istore 4, 2) := by decide +kernel
theorem dX12_changeAll_28 : decode cX12_changeAll 28 = .ok (.aload_n 0, 1) := by decide +kernel
theorem dX12_changeAll_29 : decode cX12_changeAll 29 = .ok (.getfield 120, 3) := by decide +kernel
theorem dX12_changeAll_32 : decode cX12_changeAll 32 = .ok (.iload_n 3, 1) := by decide +kernel
theorem dX12_changeAll_33 : decode cX12_changeAll 33 = .ok (.iaload, 1) := by decide +kernel
theorem dX12_changeAll_34 : decode cX12_changeAll 34 = .ok (.iconst 2, 1) := by decide +kernel
theorem dX12_changeAll_35 : decode cX12_changeAll 35 = .ok (.if_icmp .ne 47, 3) := by decide +kernel
theorem dX12_changeAll_38 : decode cX12_changeAll 38 = .ok (.iconst 0, 1) := by decide +kernel
theorem dX12_changeAll_39 : decode cX12_changeAll 39 = .ok (.istore 5, 2) := by decide +kernel
theorem dX12_changeAll_41 : decode cX12_changeAll 41 = .ok (.iload 5, 2) := by decide +kernel
theorem dX12_changeAll_43 : decode cX12_changeAll 43 = .ok (.bipush 16, 2) := by decide +kernel
theorem dX12_changeAll_45 : decode cX12_changeAll 45 = .ok (.if_icmp .ge 34, 3) := by decide +kernel
theorem dX12_changeAll_48 : decode cX12_changeAll 48 = .ok (.iload 4, 2) := by decide +kernel
theorem dX12_changeAll_50 : decode cX12_changeAll 50 = .ok (.aload_n 0, 1) := by decide +kernel
theorem dX12_changeAll_51 : decode cX12_changeAll 51 = .ok (.getfield 187, 3) := by decide +kernel
theorem dX12_changeAll_54 : decode cX12_changeAll 54 = .ok (.bipush 16, 2) := by decide +kernel
theorem dX12_changeAll_56 : decode cX12_changeAll 56 = .ok (.iload_n 3, 1) := by decide +kernel
theorem dX12_changeAll_57 : decode cX12_changeAll 57 = .ok (.imul, 1) := by decide +kernel
theorem dX12_changeAll_58 : decode cX12_changeAll 58 = .ok (.iload 5, 2) := by decide +kernel
theorem dX12_changeAll_60 : decode cX12_changeAll 60 = .ok (.iadd, 1) := by decide +kernel
theorem dX12_changeAll_61 : decode cX12_changeAll 61 = .ok (.baload, 1) := by decide +kernel
theorem dX12_changeAll_62 : decode cX12_changeAll 62 = .ok (.ifCond .eq 7, 3) := by decide +kernel
theorem dX12_changeAll_65 : decode cX12_changeAll 65 = .ok (.iconst 1, 1) := by decide +kernel
theorem dX12_changeAll_66 : decode cX12_changeAll 66 = .ok (.goto 4, 3) := by decide +kernel
theorem dX12_changeAll_69 : decode cX12_changeAll 69 = .ok (.iconst 0, 1) := by decide +kernel
theorem dX12_changeAll_70 : decode cX12_changeAll 70 = .ok (.iadd, 1) := by decide +kernel
theorem dX12_changeAll_71 : decode cX12_changeAll 71 = .ok (.istore 4, 2) := by decide +kernel
theorem dX12_changeAll_73 : decode cX12_changeAll 73 = .ok (.iinc 5 1, 3) := by decide +kernel
theorem dX12_changeAll_76 : decode cX12_changeAll 76 = .ok (.goto (-35), 3) := by decide +kernel
theorem dX12_changeAll_79 : decode cX12_changeAll 79 = .ok (.goto 10, 3) := by decide +kernel
theorem dX12_changeAll_82 : decode cX12_changeAll 82 = .ok (.aload_n 0, 1) := by decide +kernel
theorem dX12_changeAll_83 : decode cX12_changeAll 83 = .ok (.iload_n 3, 1) := by decide +kernel
theorem dX12_changeAll_84 : decode cX12_changeAll 84 = .ok (.invokevirtual 462, 3) := by decide +kernel
theorem dX12_changeAll_87 : decode cX12_changeAll 87 = .ok (.istore 4, 2) := by decide +kernel
theorem dX12_changeAll_89 : decode cX12_changeAll 89 = .ok (.iload 4, 2) := by decide +kernel
theorem dX12_changeAll_91 : decode cX12_changeAll 91 = .ok (.ifCond .le 15, 3) := by decide +kernel
theorem dX12_changeAll_94 : decode cX12_changeAll 94 = .ok (.aload_n 0, 1) := by decide +kernel
theorem dX12_changeAll_95 : decode cX12_changeAll 95 = .ok (.iload_n 3, 1) := by decide +kernel
theorem dX12_changeAll_96 : decode cX12_changeAll 96 = .ok (.iload 4, 2) := by decide +kernel
theorem dX12_changeAll_98 : decode cX12_changeAll 98 = .ok (.invokevirtual 465, 3) := by decide +kernel
theorem dX12_changeAll_101 : decode cX12_changeAll 101 = .ok (.ifCond .ne 5, 3) := by decide +kernel
theorem dX12_changeAll_104 : decode cX12_changeAll 104 = .ok (.iconst 0, 1) := by decide +kernel
theorem dX12_changeAll_105 : decode cX12_changeAll 105 = .ok (.ireturn, 1) := by decide +kernel
theorem dX12_changeAll_106 : decode cX12_changeAll 106 = .ok (.iinc 2 1, 3) := by decide +kernel
theorem dX12_changeAll_109 : decode cX12_changeAll 109 = .ok (.goto (-99), 3) := by decide +kernel
theorem dX12_changeAll_112 : decode cX12_changeAll 112 = .ok (.iconst 1, 1) := by decide +kernel
theorem dX12_changeAll_113 : decode cX12_changeAll 113 = .ok (.ireturn, 1) := by decide +kernel
theorem dX12_change_0 : decode cX12_change 0 = .ok (.aload_n 0, 1) := by decide +kernel
theorem dX12_change_1 : decode cX12_change 1 = .ok (.aload_n 0, 1) := by decide +kernel
theorem dX12_change_2 : decode cX12_change 2 = .ok (.getfield 123, 3) := by decide +kernel
theorem dX12_change_5 : decode cX12_change 5 = .ok (.iload_n 1, 1) := by decide +kernel
theorem dX12_change_6 : decode cX12_change 6 = .ok (.iaload, 1) := by decide +kernel
theorem dX12_change_7 : decode cX12_change 7 = .ok (.aload_n 0, 1) := by decide +kernel
theorem dX12_change_8 : decode cX12_change 8 = .ok (.getfield 126, 3) := by decide +kernel
theorem dX12_change_11 : decode cX12_change 11 = .ok (.iload_n 1, 1) := by decide +kernel
theorem dX12_change_12 : decode cX12_change 12 = .ok (.iaload, 1) := by decide +kernel
theorem dX12_change_13 : decode cX12_change 13 = .ok (.invokevirtual 369, 3) := by decide +kernel
theorem dX12_change_16 : decode cX12_change 16 = .ok (.istore_n 3, 1) := by decide +kernel
theorem dX12_change_17 : decode cX12_change 17 = .ok (.iload_n 3, 1) := by decide +kernel
theorem dX12_change_18 : decode cX12_change 18 = .ok (.ifCond .lt 28, 3) := by decide +kernel
theorem dX12_change_21 : decode cX12_change 21 = .ok (.aload_n 0, 1) := by decide +kernel
theorem dX12_change_22 : decode cX12_change 22 = .ok (.getfield 120, 3) := by decide +kernel
theorem dX12_change_25 : decode cX12_change 25 = .ok (.iload_n 1, 1) := by decide +kernel
theorem dX12_change_26 : decode cX12_change 26 = .ok (.iaload, 1) := by decide +kernel
theorem dX12_change_27 : decode cX12_change 27 = .ok (.iconst 1, 1) := by decide +kernel
theorem dX12_change_28 : decode cX12_change 28 = .ok (.if_icmp .ne 25, 3) := by decide +kernel
theorem dX12_change_31 : decode cX12_change 31 = .ok (.aload_n 0, 1) := by decide +kernel
theorem dX12_change_32 : decode cX12_change 32 = .ok (.getfield 86, 3) := by decide +kernel
theorem dX12_change_35 : decode cX12_change 35 = .ok (.iload_n 3, 1) := by decide +kernel
theorem dX12_change_36 : decode cX12_change 36 = .ok (.iaload, 1) := by decide +kernel
theorem dX12_change_37 : decode cX12_change 37 = .ok (.aload_n 0, 1) := by decide +kernel
theorem dX12_change_38 : decode cX12_change 38 = .ok (.getfield 132, 3) := by decide +kernel
theorem dX12_change_41 : decode cX12_change 41 = .ok (.iload_n 1, 1) := by decide +kernel
theorem dX12_change_42 : decode cX12_change 42 = .ok (.iaload, 1) := by decide +kernel
theorem dX12_change_43 : decode cX12_change 43 = .ok (.if_icmp .eq 10, 3) := by decide +kernel
theorem dX12_change_46 : decode cX12_change 46 = .ok (.aload_n 0, 1) := by decide +kernel
theorem dX12_change_47 : decode cX12_change 47 = .ok (.iconst 2, 1) := by decide +kernel
theorem dX12_change_48 : decode cX12_change 48 = .ok (.iload_n 1, 1) := by decide +kernel
theorem dX12_change_49 : decode cX12_change 49 = .ok (.invokevirtual 453, 3) := by decide +kernel
theorem dX12_change_52 : decode cX12_change 52 = .ok (.ireturn, 1) := by decide +kernel
theorem dX12_change_53 : decode cX12_change 53 = .ok (.iconst 0, 1) := by decide +kernel
theorem dX12_change_54 : decode cX12_change 54 = .ok (.istore 4, 2) := by decide +kernel
theorem dX12_change_56 : decode cX12_change 56 = .ok (.iload 4, 2) := by decide +kernel
theorem dX12_change_58 : decode cX12_change 58 = .ok (.bipush 16, 2) := by decide +kernel
theorem dX12_change_60 : decode cX12_change 60 = .ok (.if_icmp .ge 123, 3) := by decide +kernel
theorem dX12_change_63 : decode cX12_change 63 = .ok (.aload_n 0, 1) := by decide +kernel
theorem dX12_change_64 : decode cX12_change 64 = .ok (.getfield 120, 3) := by decide +kernel
theorem dX12_change_67 : decode cX12_change 67 = .ok (.iload_n 1, 1) := by decide +kernel
theorem dX12_change_68 : decode cX12_change 68 = .ok (.iaload, 1) := by decide +kernel
theorem dX12_change_69 : decode cX12_change 69 = .ok (.iconst 2, 1) := by decide +kernel
theorem dX12_change_70 : decode cX12_change 70 = .ok (.if_icmp .ne 18, 3) := by decide +kernel
theorem dX12_change_73 : decode cX12_change 73 = .ok (.aload_n 0, 1) := by decide +kernel
theorem dX12_change_74 : decode cX12_change 74 = .ok (.getfield 187, 3) := by decide +kernel
theorem dX12_change_77 : decode cX12_change 77 = .ok (.bipush 16, 2) := by decide +kernel
theorem dX12_change_79 : decode cX12_change 79 = .ok (.iload_n 1, 1) := by decide +kernel
theorem dX12_change_80 : decode cX12_change 80 = .ok (.imul, 1) := by decide +kernel
theorem dX12_change_81 : decode cX12_change 81 = .ok (.iload 4, 2) := by decide +kernel
theorem dX12_change_83 : decode cX12_change 83 = .ok (.iadd, 1) := by decide +kernel
theorem dX12_change_84 : decode cX12_change 84 = .ok (.baload, 1) := by decide +kernel
theorem dX12_change_85 : decode cX12_change 85 = .ok (.goto 51, 3) := by decide +kernel
theorem dX12_change_88 : decode cX12_change 88 = .ok (.iload 4, 2) := by decide +kernel
theorem dX12_change_90 : decode cX12_change 90 = .ok (.aload_n 0, 1) := by decide +kernel
theorem dX12_change_91 : decode cX12_change 91 = .ok (.getfield 23, 3) := by decide +kernel
theorem dX12_change_94 : decode cX12_change 94 = .ok (.aload_n 0, 1) := by decide +kernel
theorem dX12_change_95 : decode cX12_change 95 = .ok (.getfield 129, 3) := by decide +kernel
theorem dX12_change_98 : decode cX12_change 98 = .ok (.iload_n 1, 1) := by decide +kernel
theorem dX12_change_99 : decode cX12_change 99 = .ok (.iaload, 1) := by decide +kernel
theorem dX12_change_100 : decode cX12_change 100 = .ok (.iaload, 1) := by decide +kernel
theorem dX12_change_101 : decode cX12_change 101 = .ok (.if_icmp .ge 34, 3) := by decide +kernel
theorem dX12_change_104 : decode cX12_change 104 = .ok (.aload_n 0, 1) := by decide +kernel
theorem dX12_change_105 : decode cX12_change 105 = .ok (.getfield 135, 3) := by decide +kernel
theorem dX12_change_108 : decode cX12_change 108 = .ok (.bipush 16, 2) := by decide +kernel
theorem dX12_change_110 : decode cX12_change 110 = .ok (.iload_n 1, 1) := by decide +kernel
theorem dX12_change_111 : decode cX12_change 111 = .ok (.imul, 1) := by decide +kernel
theorem dX12_change_112 : decode cX12_change 112 = .ok (.iload 4, 2) := by decide +kernel
theorem dX12_change_114 : decode cX12_change 114 = .ok (.iadd, 1) := by decide +kernel
theorem dX12_change_115 : decode cX12_change 115 = .ok (.iaload, 1) := by decide +kernel
theorem dX12_change_116 : decode cX12_change 116 = .ok (.aload_n 0, 1) := by decide +kernel
theorem dX12_change_117 : decode cX12_change 117 = .ok (.getfield 138, 3) := by decide +kernel
theorem dX12_change_120 : decode cX12_change 120 = .ok (.bipush 16, 2) := by decide +kernel
theorem dX12_change_122 : decode cX12_change 122 = .ok (.iload_n 1, 1) := by decide +kernel
theorem dX12_change_123 : decode cX12_change 123 = .ok (.imul, 1) := by decide +kernel
theorem dX12_change_124 : decode cX12_change 124 = .ok (.iload 4, 2) := by decide +kernel
theorem dX12_change_126 : decode cX12_change 126 = .ok (.iadd, 1) := by decide +kernel
theorem dX12_change_127 : decode cX12_change 127 = .ok (.iaload, 1) := by decide +kernel
theorem dX12_change_128 : decode cX12_change 128 = .ok (.if_icmp .eq 7, 3) := by decide +kernel
theorem dX12_change_131 : decode cX12_change 131 = .ok (.iconst 1, 1) := by decide +kernel
theorem dX12_change_132 : decode cX12_change 132 = .ok (.goto 4, 3) := by decide +kernel
theorem dX12_change_135 : decode cX12_change 135 = .ok (.iconst 0, 1) := by decide +kernel
theorem dX12_change_136 : decode cX12_change 136 = .ok (.istore 5, 2) := by decide +kernel
theorem dX12_change_138 : decode cX12_change 138 = .ok (.aload_n 0, 1) := by decide +kernel
theorem dX12_change_139 : decode cX12_change 139 = .ok (.getfield 190, 3) := by decide +kernel
theorem dX12_change_142 : decode cX12_change 142 = .ok (.iload 4, 2) := by decide +kernel
theorem dX12_change_144 : decode cX12_change 144 = .ok (.iload 5, 2) := by decide +kernel
theorem dX12_change_146 : decode cX12_change 146 = .ok (.ifCond .eq 18, 3) := by decide +kernel
theorem dX12_change_149 : decode cX12_change 149 = .ok (.aload_n 0, 1) := by decide +kernel
theorem dX12_change_150 : decode cX12_change 150 = .ok (.getfield 135, 3) := by decide +kernel
theorem dX12_change_153 : decode cX12_change 153 = .ok (.bipush 16, 2) := by decide +kernel
theorem dX12_change_155 : decode cX12_change 155 = .ok (.iload_n 1, 1) := by decide +kernel
theorem dX12_change_156 : decode cX12_change 156 = .ok (.imul, 1) := by decide +kernel
theorem dX12_change_157 : decode cX12_change 157 = .ok (.iload 4, 2) := by decide +kernel
theorem dX12_change_159 : decode cX12_change 159 = .ok (.iadd, 1) := by decide +kernel
theorem dX12_change_160 : decode cX12_change 160 = .ok (.iaload, 1) := by decide +kernel
theorem dX12_change_161 : decode cX12_change 161 = .ok (.goto 15, 3) := by decide +kernel
theorem dX12_change_164 : decode cX12_change 164 = .ok (.aload_n 0, 1) := by decide +kernel
theorem dX12_change_165 : decode cX12_change 165 = .ok (.getfield 89, 3) := by decide +kernel
theorem dX12_change_168 : decode cX12_change 168 = .ok (.bipush 16, 2) := by decide +kernel
theorem dX12_change_170 : decode cX12_change 170 = .ok (.iload_n 3, 1) := by decide +kernel
theorem dX12_change_171 : decode cX12_change 171 = .ok (.imul, 1) := by decide +kernel
theorem dX12_change_172 : decode cX12_change 172 = .ok (.iload 4, 2) := by decide +kernel
theorem dX12_change_174 : decode cX12_change 174 = .ok (.iadd, 1) := by decide +kernel
theorem dX12_change_175 : decode cX12_change 175 = .ok (.iaload, 1) := by decide +kernel
theorem dX12_change_176 : decode cX12_change 176 = .ok (.iastore, 1) := by decide +kernel
theorem dX12_change_177 : decode cX12_change 177 = .ok (.iinc 4 1, 3) := by decide +kernel
theorem dX12_change_180 : decode cX12_change 180 = .ok (.goto (-124), 3) := by decide +kernel
theorem dX12_change_183 : decode cX12_change 183 = .ok (.aload_n 0, 1) := by decide +kernel
theorem dX12_change_184 : decode cX12_change 184 = .ok (.aload_n 0, 1) := by decide +kernel
theorem dX12_change_185 : decode cX12_change 185 = .ok (.getfield 123, 3) := by decide +kernel
theorem dX12_change_188 : decode cX12_change 188 = .ok (.iload_n 1, 1) := by decide +kernel
theorem dX12_change_189 : decode cX12_change 189 = .ok (.iaload, 1) := by decide +kernel
theorem dX12_change_190 : decode cX12_change 190 = .ok (.aload_n 0, 1) := by decide +kernel
theorem dX12_change_191 : decode cX12_change 191 = .ok (.getfield 126, 3) := by decide +kernel
theorem dX12_change_194 : decode cX12_change 194 = .ok (.iload_n 1, 1) := by decide +kernel
theorem dX12_change_195 : decode cX12_change 195 = .ok (.iaload, 1) := by decide +kernel
theorem dX12_change_196 : decode cX12_change 196 = .ok (.aload_n 0, 1) := by decide +kernel
theorem dX12_change_197 : decode cX12_change 197 = .ok (.getfield 129, 3) := by decide +kernel
theorem dX12_change_200 : decode cX12_change 200 = .ok (.iload_n 1, 1) := by decide +kernel
theorem dX12_change_201 : decode cX12_change 201 = .ok (.iaload, 1) := by decide +kernel
theorem dX12_change_202 : decode cX12_change 202 = .ok (.aload_n 0, 1) := by decide +kernel
theorem dX12_change_203 : decode cX12_change 203 = .ok (.getfield 190, 3) := by decide +kernel
theorem dX12_change_206 : decode cX12_change 206 = .ok (.iconst 0, 1) := by decide +kernel
theorem dX12_change_207 : decode cX12_change 207 = .ok (.invokevirtual 430, 3) := by decide +kernel
theorem dX12_change_210 : decode cX12_change 210 = .ok (.ifCond .eq 10, 3) := by decide +kernel
theorem dX12_change_213 : decode cX12_change 213 = .ok (.aload_n 0, 1) := by decide +kernel
theorem dX12_change_214 : decode cX12_change 214 = .ok (.iconst 1, 1) := by decide +kernel
theorem dX12_change_215 : decode cX12_change 215 = .ok (.iload_n 1, 1) := by decide +kernel
theorem dX12_change_216 : decode cX12_change 216 = .ok (.invokevirtual 453, 3) := by decide +kernel
theorem dX12_change_219 : decode cX12_change 219 = .ok (.ireturn, 1) := by decide +kernel
theorem dX12_change_220 : decode cX12_change 220 = .ok (.iconst 0, 1) := by decide +kernel
theorem dX12_change_221 : decode cX12_change 221 = .ok (.istore 4, 2) := by decide +kernel
theorem dX12_change_223 : decode cX12_change 223 = .ok (.iload 4, 2) := by decide +kernel
theorem dX12_change_225 : decode cX12_change 225 = .ok (.bipush 16, 2) := by decide +kernel
theorem dX12_change_227 : decode cX12_change 227 = .ok (.if_icmp .ge 28, 3) := by decide +kernel
theorem dX12_change_230 : decode cX12_change 230 = .ok (.aload_n 0, 1) := by decide +kernel
theorem dX12_change_231 : decode cX12_change 231 = .ok (.getfield 89, 3) := by decide +kernel
theorem dX12_change_234 : decode cX12_change 234 = .ok (.bipush 16, 2) := by decide +kernel
theorem dX12_change_236 : decode cX12_change 236 = .ok (.iload_n 3, 1) := by decide +kernel
theorem dX12_change_237 : decode cX12_change 237 = .ok (.imul, 1) := by decide +kernel
theorem dX12_change_238 : decode cX12_change 238 = .ok (.iload 4, 2) := by decide +kernel
theorem dX12_change_240 : decode cX12_change 240 = .ok (.iadd, 1) := by decide +kernel
theorem dX12_change_241 : decode cX12_change 241 = .ok (.aload_n 0, 1) := by decide +kernel
theorem dX12_change_242 : decode cX12_change 242 = .ok (.getfield 190, 3) := by decide +kernel
theorem dX12_change_245 : decode cX12_change 245 = .ok (.iload 4, 2) := by decide +kernel
theorem dX12_change_247 : decode cX12_change 247 = .ok (.iaload, 1) := by decide +kernel
theorem dX12_change_248 : decode cX12_change 248 = .ok (.iastore, 1) := by decide +kernel
theorem dX12_change_249 : decode cX12_change 249 = .ok (.iinc 4 1, 3) := by decide +kernel
theorem dX12_change_252 : decode cX12_change 252 = .ok (.goto (-29), 3) := by decide +kernel
theorem dX12_change_255 : decode cX12_change 255 = .ok (.aload_n 0, 1) := by decide +kernel
theorem dX12_change_256 : decode cX12_change 256 = .ok (.getfield 86, 3) := by decide +kernel
theorem dX12_change_259 : decode cX12_change 259 = .ok (.iload_n 3, 1) := by decide +kernel
theorem dX12_change_260 : decode cX12_change 260 = .ok (.dup2, 1) := by decide +kernel
theorem dX12_change_261 : decode cX12_change 261 = .ok (.iaload, 1) := by decide +kernel
theorem dX12_change_262 : decode cX12_change 262 = .ok (.iconst 1, 1) := by decide +kernel
theorem dX12_change_263 : decode cX12_change 263 = .ok (.iadd, 1) := by decide +kernel
theorem dX12_change_264 : decode cX12_change 264 = .ok (.iastore, 1) := by decide +kernel
theorem dX12_change_265 : decode cX12_change 265 = .ok (.aload_n 0, 1) := by decide +kernel
theorem dX12_change_266 : decode cX12_change 266 = .ok (.iconst 1, 1) := by decide +kernel
theorem dX12_change_267 : decode cX12_change 267 = .ok (.iload_n 1, 1) := by decide +kernel
theorem dX12_change_268 : decode cX12_change 268 = .ok (.iload_n 2, 1) := by decide +kernel
theorem dX12_change_269 : decode cX12_change 269 = .ok (.invokevirtual 459, 3) := by decide +kernel
theorem dX12_change_272 : decode cX12_change 272 = .ok (.iconst 1, 1) := by decide +kernel
theorem dX12_change_273 : decode cX12_change 273 = .ok (.ireturn, 1) := by decide +kernel
theorem dX12_deleteAll_0 : decode cX12_deleteAll 0 = .ok (.aload_n 0, 1) := by decide +kernel
theorem dX12_deleteAll_1 : decode cX12_deleteAll 1 = .ok (.iload_n 1, 1) := by decide +kernel
theorem dX12_deleteAll_2 : decode cX12_deleteAll 2 = .ok (.iconst 0, 1) := by decide +kernel
theorem dX12_deleteAll_3 : decode cX12_deleteAll 3 = .ok (.iconst 0, 1) := by decide +kernel
theorem dX12_deleteAll_4 : decode cX12_deleteAll 4 = .ok (.iconst 1, 1) := by decide +kernel
theorem dX12_deleteAll_5 : decode cX12_deleteAll 5 = .ok (.invokevirtual 446, 3) := by decide +kernel
theorem dX12_deleteAll_8 : decode cX12_deleteAll 8 = .ok (.iconst 0, 1) := by decide +kernel
theorem dX12_deleteAll_9 : decode cX12_deleteAll 9 = .ok (.istore_n 2, 1) := by decide +kernel
theorem dX12_deleteAll_10 : decode cX12_deleteAll 10 = .ok (.iload_n 2, 1) := by decide +kernel
theorem dX12_deleteAll_11 : decode cX12_deleteAll 11 = .ok (.sipush 240, 3) := by decide +kernel
theorem dX12_deleteAll_14 : decode cX12_deleteAll 14 = .ok (.if_icmp .ge 16, 3) := by decide +kernel
theorem dX12_deleteAll_17 : decode cX12_deleteAll 17 = .ok (.aload_n 0, 1) := by decide +kernel
theorem dX12_deleteAll_18 : decode cX12_deleteAll 18 = .ok (.getfield 193, 3) := by decide +kernel
theorem dX12_deleteAll_21 : decode cX12_deleteAll 21 = .ok (.iload_n 2, 1) := by decide +kernel
theorem dX12_deleteAll_22 : decode cX12_deleteAll 22 = .ok (.iconst 0, 1) := by decide +kernel
theorem dX12_deleteAll_23 : decode cX12_deleteAll 23 = .ok (.bastore, 1) := by decide +kernel
theorem dX12_deleteAll_24 : decode cX12_deleteAll 24 = .ok (.iinc 2 1, 3) := by decide +kernel
theorem dX12_deleteAll_27 : decode cX12_deleteAll 27 = .ok (.goto (-17), 3) := by decide +kernel
theorem dX12_deleteAll_30 : decode cX12_deleteAll 30 = .ok (.aload_n 0, 1) := by decide +kernel
theorem dX12_deleteAll_31 : decode cX12_deleteAll 31 = .ok (.getfield 440, 3) := by decide +kernel
theorem dX12_deleteAll_34 : decode cX12_deleteAll 34 = .ok (.istore_n 2, 1) := by decide +kernel
theorem dX12_deleteAll_35 : decode cX12_deleteAll 35 = .ok (.iload_n 2, 1) := by decide +kernel
theorem dX12_deleteAll_36 : decode cX12_deleteAll 36 = .ok (.ifCond .le 196, 3) := by decide +kernel
theorem dX12_deleteAll_39 : decode cX12_deleteAll 39 = .ok (.iconst (-1), 1) := by decide +kernel
theorem dX12_deleteAll_40 : decode cX12_deleteAll 40 = .ok (.istore_n 3, 1) := by decide +kernel
theorem dX12_deleteAll_41 : decode cX12_deleteAll 41 = .ok (.iconst (-1), 1) := by decide +kernel
theorem dX12_deleteAll_42 : decode cX12_deleteAll 42 = .ok (.istore 4, 2) := by decide +kernel
theorem dX12_deleteAll_44 : decode cX12_deleteAll 44 = .ok (.aload_n 0, 1) := by decide +kernel
theorem dX12_deleteAll_45 : decode cX12_deleteAll 45 = .ok (.getfield 440, 3) := by decide +kernel
theorem dX12_deleteAll_48 : decode cX12_deleteAll 48 = .ok (.iconst 1, 1) := by decide +kernel
theorem dX12_deleteAll_49 : decode cX12_deleteAll 49 = .ok (.isub, 1) := by decide +kernel
theorem dX12_deleteAll_50 : decode cX12_deleteAll 50 = .ok (.istore 5, 2) := by decide +kernel
theorem dX12_deleteAll_52 : decode cX12_deleteAll 52 = .ok (.iload 5, 2) := by decide +kernel
theorem dX12_deleteAll_54 : decode cX12_deleteAll 54 = .ok (.ifCond .lt 59, 3) := by decide +kernel
theorem dX12_deleteAll_57 : decode cX12_deleteAll 57 = .ok (.aload_n 0, 1) := by decide +kernel
theorem dX12_deleteAll_58 : decode cX12_deleteAll 58 = .ok (.getfield 181, 3) := by decide +kernel
theorem dX12_deleteAll_61 : decode cX12_deleteAll 61 = .ok (.iload 5, 2) := by decide +kernel
theorem dX12_deleteAll_63 : decode cX12_deleteAll 63 = .ok (.iaload, 1) := by decide +kernel
theorem dX12_deleteAll_64 : decode cX12_deleteAll 64 = .ok (.istore 6, 2) := by decide +kernel
theorem dX12_deleteAll_66 : decode cX12_deleteAll 66 = .ok (.aload_n 0, 1) := by decide +kernel
theorem dX12_deleteAll_67 : decode cX12_deleteAll 67 = .ok (.getfield 193, 3) := by decide +kernel
theorem dX12_deleteAll_70 : decode cX12_deleteAll 70 = .ok (.iload 6, 2) := by decide +kernel
theorem dX12_deleteAll_72 : decode cX12_deleteAll 72 = .ok (.baload, 1) := by decide +kernel
theorem dX12_deleteAll_73 : decode cX12_deleteAll 73 = .ok (.ifCond .eq 6, 3) := by decide +kernel
theorem dX12_deleteAll_76 : decode cX12_deleteAll 76 = .ok (.goto 31, 3) := by decide +kernel
theorem dX12_deleteAll_79 : decode cX12_deleteAll 79 = .ok (.iload 6, 2) := by decide +kernel
theorem dX12_deleteAll_81 : decode cX12_deleteAll 81 = .ok (.istore 4, 2) := by decide +kernel
theorem dX12_deleteAll_83 : decode cX12_deleteAll 83 = .ok (.aload_n 0, 1) := by decide +kernel
theorem dX12_deleteAll_84 : decode cX12_deleteAll 84 = .ok (.aload_n 0, 1) := by decide +kernel
theorem dX12_deleteAll_85 : decode cX12_deleteAll 85 = .ok (.getfield 123, 3) := by decide +kernel
theorem dX12_deleteAll_88 : decode cX12_deleteAll 88 = .ok (.iload 6, 2) := by decide +kernel
theorem dX12_deleteAll_90 : decode cX12_deleteAll 90 = .ok (.iaload, 1) := by decide +kernel
theorem dX12_deleteAll_91 : decode cX12_deleteAll 91 = .ok (.aload_n 0, 1) := by decide +kernel
theorem dX12_deleteAll_92 : decode cX12_deleteAll 92 = .ok (.getfield 126, 3) := by decide +kernel
theorem dX12_deleteAll_95 : decode cX12_deleteAll 95 = .ok (.iload 6, 2) := by decide +kernel
theorem dX12_deleteAll_97 : decode cX12_deleteAll 97 = .ok (.iaload, 1) := by decide +kernel
theorem dX12_deleteAll_98 : decode cX12_deleteAll 98 = .ok (.invokevirtual 468, 3) := by decide +kernel
theorem dX12_deleteAll_101 : decode cX12_deleteAll 101 = .ok (.ifCond .ge 6, 3) := by decide +kernel
theorem dX12_deleteAll_104 : decode cX12_deleteAll 104 = .ok (.iload 6, 2) := by decide +kernel
theorem dX12_deleteAll_106 : decode cX12_deleteAll 106 = .ok (.istore_n 3, 1) := by decide +kernel
theorem dX12_deleteAll_107 : decode cX12_deleteAll 107 = .ok (.iinc 5 (-1), 3) := by decide +kernel
theorem dX12_deleteAll_110 : decode cX12_deleteAll 110 = .ok (.goto (-58), 3) := by decide +kernel
theorem dX12_deleteAll_113 : decode cX12_deleteAll 113 = .ok (.iload_n 3, 1) := by decide +kernel
theorem dX12_deleteAll_114 : decode cX12_deleteAll 114 = .ok (.ifCond .ge 8, 3) := by decide +kernel
theorem dX12_deleteAll_117 : decode cX12_deleteAll 117 = .ok (.iload 4, 2) := by decide +kernel
theorem dX12_deleteAll_119 : decode cX12_deleteAll 119 = .ok (.goto 4, 3) := by decide +kernel
theorem dX12_deleteAll_122 : decode cX12_deleteAll 122 = .ok (.iload_n 3, 1) := by decide +kernel
theorem dX12_deleteAll_123 : decode cX12_deleteAll 123 = .ok (.istore 5, 2) := by decide +kernel
theorem dX12_deleteAll_125 : decode cX12_deleteAll 125 = .ok (.aload_n 0, 1) := by decide +kernel
theorem dX12_deleteAll_126 : decode cX12_deleteAll 126 = .ok (.aload_n 0, 1) := by decide +kernel
theorem dX12_deleteAll_127 : decode cX12_deleteAll 127 = .ok (.getfield 123, 3) := by decide +kernel
theorem dX12_deleteAll_130 : decode cX12_deleteAll 130 = .ok (.iload 5, 2) := by decide +kernel
theorem dX12_deleteAll_132 : decode cX12_deleteAll 132 = .ok (.iaload, 1) := by decide +kernel
theorem dX12_deleteAll_133 : decode cX12_deleteAll 133 = .ok (.aload_n 0, 1) := by decide +kernel
theorem dX12_deleteAll_134 : decode cX12_deleteAll 134 = .ok (.getfield 126, 3) := by decide +kernel
theorem dX12_deleteAll_137 : decode cX12_deleteAll 137 = .ok (.iload 5, 2) := by decide +kernel
theorem dX12_deleteAll_139 : decode cX12_deleteAll 139 = .ok (.iaload, 1) := by decide +kernel
theorem dX12_deleteAll_140 : decode cX12_deleteAll 140 = .ok (.invokevirtual 369, 3) := by decide +kernel
theorem dX12_deleteAll_143 : decode cX12_deleteAll 143 = .ok (.istore 6, 2) := by decide +kernel
theorem dX12_deleteAll_145 : decode cX12_deleteAll 145 = .ok (.iload 6, 2) := by decide +kernel
theorem dX12_deleteAll_147 : decode cX12_deleteAll 147 = .ok (.ifCond .lt 20, 3) := by decide +kernel
theorem dX12_deleteAll_150 : decode cX12_deleteAll 150 = .ok (.aload_n 0, 1) := by decide +kernel
theorem dX12_deleteAll_151 : decode cX12_deleteAll 151 = .ok (.getfield 86, 3) := by decide +kernel
theorem dX12_deleteAll_154 : decode cX12_deleteAll 154 = .ok (.iload 6, 2) := by decide +kernel
theorem dX12_deleteAll_156 : decode cX12_deleteAll 156 = .ok (.iaload, 1) := by decide +kernel
theorem dX12_deleteAll_157 : decode cX12_deleteAll 157 = .ok (.aload_n 0, 1) := by decide +kernel
theorem dX12_deleteAll_158 : decode cX12_deleteAll 158 = .ok (.getfield 132, 3) := by decide +kernel
theorem dX12_deleteAll_161 : decode cX12_deleteAll 161 = .ok (.iload 5, 2) := by decide +kernel
theorem dX12_deleteAll_163 : decode cX12_deleteAll 163 = .ok (.iaload, 1) := by decide +kernel
theorem dX12_deleteAll_164 : decode cX12_deleteAll 164 = .ok (.if_icmp .eq 11, 3) := by decide +kernel
theorem dX12_deleteAll_167 : decode cX12_deleteAll 167 = .ok (.aload_n 0, 1) := by decide +kernel
theorem dX12_deleteAll_168 : decode cX12_deleteAll 168 = .ok (.iconst 2, 1) := by decide +kernel
theorem dX12_deleteAll_169 : decode cX12_deleteAll 169 = .ok (.iload 5, 2) := by decide +kernel
theorem dX12_deleteAll_171 : decode cX12_deleteAll 171 = .ok (.invokevirtual 453, 3) := by decide +kernel
theorem dX12_deleteAll_174 : decode cX12_deleteAll 174 = .ok (.ireturn, 1) := by decide +kernel
theorem dX12_deleteAll_175 : decode cX12_deleteAll 175 = .ok (.aload_n 0, 1) := by decide +kernel
theorem dX12_deleteAll_176 : decode cX12_deleteAll 176 = .ok (.aload_n 0, 1) := by decide +kernel
theorem dX12_deleteAll_177 : decode cX12_deleteAll 177 = .ok (.getfield 123, 3) := by decide +kernel
theorem dX12_deleteAll_180 : decode cX12_deleteAll 180 = .ok (.iload 5, 2) := by decide +kernel
theorem dX12_deleteAll_182 : decode cX12_deleteAll 182 = .ok (.iaload, 1) := by decide +kernel
theorem dX12_deleteAll_183 : decode cX12_deleteAll 183 = .ok (.aload_n 0, 1) := by decide +kernel
theorem dX12_deleteAll_184 : decode cX12_deleteAll 184 = .ok (.getfield 126, 3) := by decide +kernel
theorem dX12_deleteAll_187 : decode cX12_deleteAll 187 = .ok (.iload 5, 2) := by decide +kernel
theorem dX12_deleteAll_189 : decode cX12_deleteAll 189 = .ok (.iaload, 1) := by decide +kernel
theorem dX12_deleteAll_190 : decode cX12_deleteAll 190 = .ok (.invokevirtual 468, 3) := by decide +kernel
theorem dX12_deleteAll_193 : decode cX12_deleteAll 193 = .ok (.ifCond .lt 11, 3) := by decide +kernel
theorem dX12_deleteAll_196 : decode cX12_deleteAll 196 = .ok (.aload_n 0, 1) := by decide +kernel
theorem dX12_deleteAll_197 : decode cX12_deleteAll 197 = .ok (.iconst 1, 1) := by decide +kernel
theorem dX12_deleteAll_198 : decode cX12_deleteAll 198 = .ok (.iload 5, 2) := by decide +kernel
theorem dX12_deleteAll_200 : decode cX12_deleteAll 200 = .ok (.invokevirtual 453, 3) := by decide +kernel
theorem dX12_deleteAll_203 : decode cX12_deleteAll 203 = .ok (.ireturn, 1) := by decide +kernel
theorem dX12_deleteAll_204 : decode cX12_deleteAll 204 = .ok (.aload_n 0, 1) := by decide +kernel
theorem dX12_deleteAll_205 : decode cX12_deleteAll 205 = .ok (.iload 6, 2) := by decide +kernel
theorem dX12_deleteAll_207 : decode cX12_deleteAll 207 = .ok (.invokevirtual 471, 3) := by decide +kernel
theorem dX12_deleteAll_210 : decode cX12_deleteAll 210 = .ok (.aload_n 0, 1) := by decide +kernel
theorem dX12_deleteAll_211 : decode cX12_deleteAll 211 = .ok (.getfield 193, 3) := by decide +kernel
theorem dX12_deleteAll_214 : decode cX12_deleteAll 214 = .ok (.iload 5, 2) := by decide +kernel
theorem dX12_deleteAll_216 : decode cX12_deleteAll 216 = .ok (.iconst 1, 1) := by decide +kernel
theorem dX12_deleteAll_217 : decode cX12_deleteAll 217 = .ok (.bastore, 1) := by decide +kernel
theorem dX12_deleteAll_218 : decode cX12_deleteAll 218 = .ok (.aload_n 0, 1) := by decide +kernel
theorem dX12_deleteAll_219 : decode cX12_deleteAll 219 = .ok (.iconst 2, 1) := by decide +kernel
theorem dX12_deleteAll_220 : decode cX12_deleteAll 220 = .ok (.iload 5, 2) := by decide +kernel
theorem dX12_deleteAll_222 : decode cX12_deleteAll 222 = .ok (.iconst 0, 1) := by decide +kernel
theorem dX12_deleteAll_223 : decode cX12_deleteAll 223 = .ok (.invokevirtual 459, 3) := by decide +kernel
theorem dX12_deleteAll_226 : decode cX12_deleteAll 226 = .ok (.iinc 2 (-1), 3) := by decide +kernel
theorem dX12_deleteAll_229 : decode cX12_deleteAll 229 = .ok (.goto (-194), 3) := by decide +kernel
theorem dX12_deleteAll_232 : decode cX12_deleteAll 232 = .ok (.iconst 1, 1) := by decide +kernel
theorem dX12_deleteAll_233 : decode cX12_deleteAll 233 = .ok (.ireturn, 1) := by decide +kernel
theorem dX12_goRow_0 : decode cX12_goRow 0 = .ok (.aload_n 0, 1) := by decide +kernel
theorem dX12_goRow_1 : decode cX12_goRow 1 = .ok (.dup, 1) := by decide +kernel
theorem dX12_goRow_2 : decode cX12_goRow 2 = .ok (.getfield 344, 3) := by decide +kernel
theorem dX12_goRow_5 : decode cX12_goRow 5 = .ok (.iconst 1, 1) := by decide +kernel
theorem dX12_goRow_6 : decode cX12_goRow 6 = .ok (.isub, 1) := by decide +kernel
theorem dX12_goRow_7 : decode cX12_goRow 7 = .ok (.putfield 344, 3) := by decide +kernel
theorem dX12_goRow_10 : decode cX12_goRow 10 = .ok (.iload_n 1, 1) := by decide +kernel
theorem dX12_goRow_11 : decode cX12_goRow 11 = .ok (.istore_n 2, 1) := by decide +kernel
theorem dX12_goRow_12 : decode cX12_goRow 12 = .ok (.iload_n 2, 1) := by decide +kernel
theorem dX12_goRow_13 : decode cX12_goRow 13 = .ok (.aload_n 0, 1) := by decide +kernel
theorem dX12_goRow_14 : decode cX12_goRow 14 = .ok (.getfield 344, 3) := by decide +kernel
theorem dX12_goRow_17 : decode cX12_goRow 17 = .ok (.if_icmp .ge 104, 3) := by decide +kernel
theorem dX12_goRow_20 : decode cX12_goRow 20 = .ok (.aload_n 0, 1) := by decide +kernel
theorem dX12_goRow_21 : decode cX12_goRow 21 = .ok (.getfield 77, 3) := by decide +kernel
theorem dX12_goRow_24 : decode cX12_goRow 24 = .ok (.iload_n 2, 1) := by decide +kernel
theorem dX12_goRow_25 : decode cX12_goRow 25 = .ok (.aload_n 0, 1) := by decide +kernel
theorem dX12_goRow_26 : decode cX12_goRow 26 = .ok (.getfield 77, 3) := by decide +kernel
theorem dX12_goRow_29 : decode cX12_goRow 29 = .ok (.iload_n 2, 1) := by decide +kernel
theorem dX12_goRow_30 : decode cX12_goRow 30 = .ok (.iconst 1, 1) := by decide +kernel
theorem dX12_goRow_31 : decode cX12_goRow 31 = .ok (.iadd, 1) := by decide +kernel
theorem dX12_goRow_32 : decode cX12_goRow 32 = .ok (.iaload, 1) := by decide +kernel
theorem dX12_goRow_33 : decode cX12_goRow 33 = .ok (.iastore, 1) := by decide +kernel
theorem dX12_goRow_34 : decode cX12_goRow 34 = .ok (.aload_n 0, 1) := by decide +kernel
theorem dX12_goRow_35 : decode cX12_goRow 35 = .ok (.getfield 80, 3) := by decide +kernel
theorem dX12_goRow_38 : decode cX12_goRow 38 = .ok (.iload_n 2, 1) := by decide +kernel
theorem dX12_goRow_39 : decode cX12_goRow 39 = .ok (.aload_n 0, 1) := by decide +kernel
theorem dX12_goRow_40 : decode cX12_goRow 40 = .ok (.getfield 80, 3) := by decide +kernel
theorem dX12_goRow_43 : decode cX12_goRow 43 = .ok (.iload_n 2, 1) := by decide +kernel
theorem dX12_goRow_44 : decode cX12_goRow 44 = .ok (.iconst 1, 1) := by decide +kernel
theorem dX12_goRow_45 : decode cX12_goRow 45 = .ok (.iadd, 1) := by decide +kernel
theorem dX12_goRow_46 : decode cX12_goRow 46 = .ok (.iaload, 1) := by decide +kernel
theorem dX12_goRow_47 : decode cX12_goRow 47 = .ok (.iastore, 1) := by decide +kernel
theorem dX12_goRow_48 : decode cX12_goRow 48 = .ok (.aload_n 0, 1) := by decide +kernel
theorem dX12_goRow_49 : decode cX12_goRow 49 = .ok (.getfield 83, 3) := by decide +kernel
theorem dX12_goRow_52 : decode cX12_goRow 52 = .ok (.iload_n 2, 1) := by decide +kernel
theorem dX12_goRow_53 : decode cX12_goRow 53 = .ok (.aload_n 0, 1) := by decide +kernel
theorem dX12_goRow_54 : decode cX12_goRow 54 = .ok (.getfield 83, 3) := by decide +kernel
theorem dX12_goRow_57 : decode cX12_goRow 57 = .ok (.iload_n 2, 1) := by decide +kernel
theorem dX12_goRow_58 : decode cX12_goRow 58 = .ok (.iconst 1, 1) := by decide +kernel
theorem dX12_goRow_59 : decode cX12_goRow 59 = .ok (.iadd, 1) := by decide +kernel
theorem dX12_goRow_60 : decode cX12_goRow 60 = .ok (.iaload, 1) := by decide +kernel
theorem dX12_goRow_61 : decode cX12_goRow 61 = .ok (.iastore, 1) := by decide +kernel
theorem dX12_goRow_62 : decode cX12_goRow 62 = .ok (.aload_n 0, 1) := by decide +kernel
theorem dX12_goRow_63 : decode cX12_goRow 63 = .ok (.getfield 86, 3) := by decide +kernel
theorem dX12_goRow_66 : decode cX12_goRow 66 = .ok (.iload_n 2, 1) := by decide +kernel
theorem dX12_goRow_67 : decode cX12_goRow 67 = .ok (.aload_n 0, 1) := by decide +kernel
theorem dX12_goRow_68 : decode cX12_goRow 68 = .ok (.getfield 86, 3) := by decide +kernel
theorem dX12_goRow_71 : decode cX12_goRow 71 = .ok (.iload_n 2, 1) := by decide +kernel
theorem dX12_goRow_72 : decode cX12_goRow 72 = .ok (.iconst 1, 1) := by decide +kernel
theorem dX12_goRow_73 : decode cX12_goRow 73 = .ok (.iadd, 1) := by decide +kernel
theorem dX12_goRow_74 : decode cX12_goRow 74 = .ok (.iaload, 1) := by decide +kernel
theorem dX12_goRow_75 : decode cX12_goRow 75 = .ok (.iastore, 1) := by decide +kernel
theorem dX12_goRow_76 : decode cX12_goRow 76 = .ok (.iconst 0, 1) := by decide +kernel
theorem dX12_goRow_77 : decode cX12_goRow 77 = .ok (.istore_n 3, 1) := by decide +kernel
theorem dX12_goRow_78 : decode cX12_goRow 78 = .ok (.iload_n 3, 1) := by decide +kernel
theorem dX12_goRow_79 : decode cX12_goRow 79 = .ok (.bipush 16, 2) := by decide +kernel
theorem dX12_goRow_81 : decode cX12_goRow 81 = .ok (.if_icmp .ge 34, 3) := by decide +kernel
theorem dX12_goRow_84 : decode cX12_goRow 84 = .ok (.aload_n 0, 1) := by decide +kernel
theorem dX12_goRow_85 : decode cX12_goRow 85 = .ok (.getfield 89, 3) := by decide +kernel
theorem dX12_goRow_88 : decode cX12_goRow 88 = .ok (.bipush 16, 2) := by decide +kernel
theorem dX12_goRow_90 : decode cX12_goRow 90 = .ok (.iload_n 2, 1) := by decide +kernel
theorem dX12_goRow_91 : decode cX12_goRow 91 = .ok (.imul, 1) := by decide +kernel
theorem dX12_goRow_92 : decode cX12_goRow 92 = .ok (.iload_n 3, 1) := by decide +kernel
theorem dX12_goRow_93 : decode cX12_goRow 93 = .ok (.iadd, 1) := by decide +kernel
theorem dX12_goRow_94 : decode cX12_goRow 94 = .ok (.aload_n 0, 1) := by decide +kernel
theorem dX12_goRow_95 : decode cX12_goRow 95 = .ok (.getfield 89, 3) := by decide +kernel
theorem dX12_goRow_98 : decode cX12_goRow 98 = .ok (.bipush 16, 2) := by decide +kernel
theorem dX12_goRow_100 : decode cX12_goRow 100 = .ok (.iload_n 2, 1) := by decide +kernel
theorem dX12_goRow_101 : decode cX12_goRow 101 = .ok (.imul, 1) := by decide +kernel
theorem dX12_goRow_102 : decode cX12_goRow 102 = .ok (.bipush 16, 2) := by decide +kernel
theorem dX12_goRow_104 : decode cX12_goRow 104 = .ok (.iadd, 1) := by decide +kernel
theorem dX12_goRow_105 : decode cX12_goRow 105 = .ok (.iload_n 3, 1) := by decide +kernel
theorem dX12_goRow_106 : decode cX12_goRow 106 = .ok (.iadd, 1) := by decide +kernel
theorem dX12_goRow_107 : decode cX12_goRow 107 = .ok (.iaload, 1) := by decide +kernel
theorem dX12_goRow_108 : decode cX12_goRow 108 = .ok (.iastore, 1) := by decide +kernel
theorem dX12_goRow_109 : decode cX12_goRow 109 = .ok (.iinc 3 1, 3) := by decide +kernel
theorem dX12_goRow_112 : decode cX12_goRow 112 = .ok (.goto (-34), 3) := by decide +kernel
theorem dX12_goRow_115 : decode cX12_goRow 115 = .ok (.iinc 2 1, 3) := by decide +kernel
theorem dX12_goRow_118 : decode cX12_goRow 118 = .ok (.goto (-106), 3) := by decide +kernel
theorem dX12_goRow_121 : decode cX12_goRow 121 = .ok (.return_, 1) := by decide +kernel
theorem dX12_writeUnit_0 : decode cX12_writeUnit 0 = .ok (.aload_n 0, 1) := by decide +kernel
theorem dX12_writeUnit_1 : decode cX12_writeUnit 1 = .ok (.iconst 0, 1) := by decide +kernel
theorem dX12_writeUnit_2 : decode cX12_writeUnit 2 = .ok (.putfield 434, 3) := by decide +kernel
theorem dX12_writeUnit_5 : decode cX12_writeUnit 5 = .ok (.aload_n 0, 1) := by decide +kernel
theorem dX12_writeUnit_6 : decode cX12_writeUnit 6 = .ok (.iconst (-1), 1) := by decide +kernel
theorem dX12_writeUnit_7 : decode cX12_writeUnit 7 = .ok (.putfield 157, 3) := by decide +kernel
theorem dX12_writeUnit_10 : decode cX12_writeUnit 10 = .ok (.aload_n 0, 1) := by decide +kernel
theorem dX12_writeUnit_11 : decode cX12_writeUnit 11 = .ok (.iconst (-1), 1) := by decide +kernel
theorem dX12_writeUnit_12 : decode cX12_writeUnit 12 = .ok (.putfield 160, 3) := by decide +kernel
theorem dX12_writeUnit_15 : decode cX12_writeUnit 15 = .ok (.aload_n 0, 1) := by decide +kernel
theorem dX12_writeUnit_16 : decode cX12_writeUnit 16 = .ok (.iconst (-1), 1) := by decide +kernel
theorem dX12_writeUnit_17 : decode cX12_writeUnit 17 = .ok (.putfield 163, 3) := by decide +kernel
theorem dX12_writeUnit_20 : decode cX12_writeUnit 20 = .ok (.aload_n 0, 1) := by decide +kernel
theorem dX12_writeUnit_21 : decode cX12_writeUnit 21 = .ok (.iconst (-1), 1) := by decide +kernel
theorem dX12_writeUnit_22 : decode cX12_writeUnit 22 = .ok (.putfield 166, 3) := by decide +kernel
theorem dX12_writeUnit_25 : decode cX12_writeUnit 25 = .ok (.aload_n 0, 1) := by decide +kernel
theorem dX12_writeUnit_26 : decode cX12_writeUnit 26 = .ok (.iconst 0, 1) := by decide +kernel
theorem dX12_writeUnit_27 : decode cX12_writeUnit 27 = .ok (.putfield 437, 3) := by decide +kernel
theorem dX12_writeUnit_30 : decode cX12_writeUnit 30 = .ok (.aload_n 0, 1) := by decide +kernel
theorem dX12_writeUnit_31 : decode cX12_writeUnit 31 = .ok (.iload_n 1, 1) := by decide +kernel
theorem dX12_writeUnit_32 : decode cX12_writeUnit 32 = .ok (.iconst 1, 1) := by decide +kernel
theorem dX12_writeUnit_33 : decode cX12_writeUnit 33 = .ok (.iconst 0, 1) := by decide +kernel
theorem dX12_writeUnit_34 : decode cX12_writeUnit 34 = .ok (.iconst 0, 1) := by decide +kernel
theorem dX12_writeUnit_35 : decode cX12_writeUnit 35 = .ok (.invokevirtual 446, 3) := by decide +kernel
theorem dX12_writeUnit_38 : decode cX12_writeUnit 38 = .ok (.iconst 0, 1) := by decide +kernel
theorem dX12_writeUnit_39 : decode cX12_writeUnit 39 = .ok (.istore_n 2, 1) := by decide +kernel
theorem dX12_writeUnit_40 : decode cX12_writeUnit 40 = .ok (.iload_n 2, 1) := by decide +kernel
theorem dX12_writeUnit_41 : decode cX12_writeUnit 41 = .ok (.aload_n 0, 1) := by decide +kernel
theorem dX12_writeUnit_42 : decode cX12_writeUnit 42 = .ok (.getfield 440, 3) := by decide +kernel
theorem dX12_writeUnit_45 : decode cX12_writeUnit 45 = .ok (.if_icmp .ge 20, 3) := by decide +kernel
theorem dX12_writeUnit_48 : decode cX12_writeUnit 48 = .ok (.aload_n 0, 1) := by decide +kernel
theorem dX12_writeUnit_49 : decode cX12_writeUnit 49 = .ok (.aload_n 0, 1) := by decide +kernel
theorem dX12_writeUnit_50 : decode cX12_writeUnit 50 = .ok (.getfield 181, 3) := by decide +kernel
theorem dX12_writeUnit_53 : decode cX12_writeUnit 53 = .ok (.iload_n 2, 1) := by decide +kernel
theorem dX12_writeUnit_54 : decode cX12_writeUnit 54 = .ok (.iaload, 1) := by decide +kernel
theorem dX12_writeUnit_55 : decode cX12_writeUnit 55 = .ok (.iconst 0, 1) := by decide +kernel
theorem dX12_writeUnit_56 : decode cX12_writeUnit 56 = .ok (.invokevirtual 474, 3) := by decide +kernel
theorem dX12_writeUnit_59 : decode cX12_writeUnit 59 = .ok (.iinc 2 1, 3) := by decide +kernel
theorem dX12_writeUnit_62 : decode cX12_writeUnit 62 = .ok (.goto (-22), 3) := by decide +kernel
theorem dX12_writeUnit_65 : decode cX12_writeUnit 65 = .ok (.aload_n 0, 1) := by decide +kernel
theorem dX12_writeUnit_66 : decode cX12_writeUnit 66 = .ok (.iload_n 1, 1) := by decide +kernel
theorem dX12_writeUnit_67 : decode cX12_writeUnit 67 = .ok (.iconst 0, 1) := by decide +kernel
theorem dX12_writeUnit_68 : decode cX12_writeUnit 68 = .ok (.iconst 1, 1) := by decide +kernel
theorem dX12_writeUnit_69 : decode cX12_writeUnit 69 = .ok (.iconst 0, 1) := by decide +kernel
theorem dX12_writeUnit_70 : decode cX12_writeUnit 70 = .ok (.invokevirtual 446, 3) := by decide +kernel
theorem dX12_writeUnit_73 : decode cX12_writeUnit 73 = .ok (.iconst 0, 1) := by decide +kernel
theorem dX12_writeUnit_74 : decode cX12_writeUnit 74 = .ok (.istore_n 2, 1) := by decide +kernel
theorem dX12_writeUnit_75 : decode cX12_writeUnit 75 = .ok (.iload_n 2, 1) := by decide +kernel
theorem dX12_writeUnit_76 : decode cX12_writeUnit 76 = .ok (.aload_n 0, 1) := by decide +kernel
theorem dX12_writeUnit_77 : decode cX12_writeUnit 77 = .ok (.getfield 440, 3) := by decide +kernel
theorem dX12_writeUnit_80 : decode cX12_writeUnit 80 = .ok (.if_icmp .ge 33, 3) := by decide +kernel
theorem dX12_writeUnit_83 : decode cX12_writeUnit 83 = .ok (.aload_n 0, 1) := by decide +kernel
theorem dX12_writeUnit_84 : decode cX12_writeUnit 84 = .ok (.aload_n 0, 1) := by decide +kernel
theorem dX12_writeUnit_85 : decode cX12_writeUnit 85 = .ok (.getfield 181, 3) := by decide +kernel
theorem dX12_writeUnit_88 : decode cX12_writeUnit 88 = .ok (.iload_n 2, 1) := by decide +kernel
theorem dX12_writeUnit_89 : decode cX12_writeUnit 89 = .ok (.iaload, 1) := by decide +kernel
theorem dX12_writeUnit_90 : decode cX12_writeUnit 90 = .ok (.invokevirtual 462, 3) := by decide +kernel
theorem dX12_writeUnit_93 : decode cX12_writeUnit 93 = .ok (.ifCond .le 14, 3) := by decide +kernel
theorem dX12_writeUnit_96 : decode cX12_writeUnit 96 = .ok (.aload_n 0, 1) := by decide +kernel
theorem dX12_writeUnit_97 : decode cX12_writeUnit 97 = .ok (.aload_n 0, 1) := by decide +kernel
theorem dX12_writeUnit_98 : decode cX12_writeUnit 98 = .ok (.getfield 181, 3) := by decide +kernel
theorem dX12_writeUnit_101 : decode cX12_writeUnit 101 = .ok (.iload_n 2, 1) := by decide +kernel
theorem dX12_writeUnit_102 : decode cX12_writeUnit 102 = .ok (.iaload, 1) := by decide +kernel
theorem dX12_writeUnit_103 : decode cX12_writeUnit 103 = .ok (.iconst 1, 1) := by decide +kernel
theorem dX12_writeUnit_104 : decode cX12_writeUnit 104 = .ok (.invokevirtual 474, 3) := by decide +kernel
theorem dX12_writeUnit_107 : decode cX12_writeUnit 107 = .ok (.iinc 2 1, 3) := by decide +kernel
theorem dX12_writeUnit_110 : decode cX12_writeUnit 110 = .ok (.goto (-35), 3) := by decide +kernel
theorem dX12_writeUnit_113 : decode cX12_writeUnit 113 = .ok (.aload_n 0, 1) := by decide +kernel
theorem dX12_writeUnit_114 : decode cX12_writeUnit 114 = .ok (.invokevirtual 477, 3) := by decide +kernel
theorem dX12_writeUnit_117 : decode cX12_writeUnit 117 = .ok (.aload_n 0, 1) := by decide +kernel
theorem dX12_writeUnit_118 : decode cX12_writeUnit 118 = .ok (.iload_n 1, 1) := by decide +kernel
theorem dX12_writeUnit_119 : decode cX12_writeUnit 119 = .ok (.invokevirtual 480, 3) := by decide +kernel
theorem dX12_writeUnit_122 : decode cX12_writeUnit 122 = .ok (.ifCond .eq 19, 3) := by decide +kernel
theorem dX12_writeUnit_125 : decode cX12_writeUnit 125 = .ok (.aload_n 0, 1) := by decide +kernel
theorem dX12_writeUnit_126 : decode cX12_writeUnit 126 = .ok (.iload_n 1, 1) := by decide +kernel
theorem dX12_writeUnit_127 : decode cX12_writeUnit 127 = .ok (.invokevirtual 483, 3) := by decide +kernel
theorem dX12_writeUnit_130 : decode cX12_writeUnit 130 = .ok (.ifCond .eq 11, 3) := by decide +kernel
theorem dX12_writeUnit_133 : decode cX12_writeUnit 133 = .ok (.aload_n 0, 1) := by decide +kernel
theorem dX12_writeUnit_134 : decode cX12_writeUnit 134 = .ok (.iload_n 1, 1) := by decide +kernel
theorem dX12_writeUnit_135 : decode cX12_writeUnit 135 = .ok (.invokevirtual 486, 3) := by decide +kernel
theorem dX12_writeUnit_138 : decode cX12_writeUnit 138 = .ok (.ifCond .ne 27, 3) := by decide +kernel
theorem dX12_writeUnit_141 : decode cX12_writeUnit 141 = .ok (.aload_n 0, 1) := by decide +kernel
theorem dX12_writeUnit_142 : decode cX12_writeUnit 142 = .ok (.invokevirtual 489, 3) := by decide +kernel
theorem dX12_writeUnit_145 : decode cX12_writeUnit 145 = .ok (.aload_n 0, 1) := by decide +kernel
theorem dX12_writeUnit_146 : decode cX12_writeUnit 146 = .ok (.getfield 434, 3) := by decide +kernel
theorem dX12_writeUnit_149 : decode cX12_writeUnit 149 = .ok (.iconst 2, 1) := by decide +kernel
theorem dX12_writeUnit_150 : decode cX12_writeUnit 150 = .ok (.if_icmp .ne 10, 3) := by decide +kernel
theorem dX12_writeUnit_153 : decode cX12_writeUnit 153 = .ok (.aload_n 0, 1) := by decide +kernel
theorem dX12_writeUnit_154 : decode cX12_writeUnit 154 = .ok (.getfield 110, 3) := by decide +kernel
theorem dX12_writeUnit_157 : decode cX12_writeUnit 157 = .ok (.iload_n 1, 1) := by decide +kernel
theorem dX12_writeUnit_158 : decode cX12_writeUnit 158 = .ok (.iconst 0, 1) := by decide +kernel
theorem dX12_writeUnit_159 : decode cX12_writeUnit 159 = .ok (.bastore, 1) := by decide +kernel
theorem dX12_writeUnit_160 : decode cX12_writeUnit 160 = .ok (.aload_n 0, 1) := by decide +kernel
theorem dX12_writeUnit_161 : decode cX12_writeUnit 161 = .ok (.getfield 434, 3) := by decide +kernel
theorem dX12_writeUnit_164 : decode cX12_writeUnit 164 = .ok (.ireturn, 1) := by decide +kernel
theorem dX12_writeUnit_165 : decode cX12_writeUnit 165 = .ok (.iconst 0, 1) := by decide +kernel
theorem dX12_writeUnit_166 : decode cX12_writeUnit 166 = .ok (.istore_n 2, 1) := by decide +kernel
theorem dX12_writeUnit_167 : decode cX12_writeUnit 167 = .ok (.iload_n 2, 1) := by decide +kernel
theorem dX12_writeUnit_168 : decode cX12_writeUnit 168 = .ok (.aload_n 0, 1) := by decide +kernel
theorem dX12_writeUnit_169 : decode cX12_writeUnit 169 = .ok (.getfield 114, 3) := by decide +kernel
theorem dX12_writeUnit_172 : decode cX12_writeUnit 172 = .ok (.iload_n 1, 1) := by decide +kernel
theorem dX12_writeUnit_173 : decode cX12_writeUnit 173 = .ok (.iaload, 1) := by decide +kernel
theorem dX12_writeUnit_174 : decode cX12_writeUnit 174 = .ok (.if_icmp .ge 138, 3) := by decide +kernel
theorem dX12_writeUnit_177 : decode cX12_writeUnit 177 = .ok (.bipush 60, 2) := by decide +kernel
theorem dX12_writeUnit_179 : decode cX12_writeUnit 179 = .ok (.iload_n 1, 1) := by decide +kernel
theorem dX12_writeUnit_180 : decode cX12_writeUnit 180 = .ok (.imul, 1) := by decide +kernel
theorem dX12_writeUnit_181 : decode cX12_writeUnit 181 = .ok (.iload_n 2, 1) := by decide +kernel
theorem dX12_writeUnit_182 : decode cX12_writeUnit 182 = .ok (.iadd, 1) := by decide +kernel
theorem dX12_writeUnit_183 : decode cX12_writeUnit 183 = .ok (.istore_n 3, 1) := by decide +kernel
theorem dX12_writeUnit_184 : decode cX12_writeUnit 184 = .ok (.aload_n 0, 1) := by decide +kernel
theorem dX12_writeUnit_185 : decode cX12_writeUnit 185 = .ok (.getfield 120, 3) := by decide +kernel
theorem dX12_writeUnit_188 : decode cX12_writeUnit 188 = .ok (.iload_n 3, 1) := by decide +kernel
theorem dX12_writeUnit_189 : decode cX12_writeUnit 189 = .ok (.iaload, 1) := by decide +kernel
theorem dX12_writeUnit_190 : decode cX12_writeUnit 190 = .ok (.iconst 3, 1) := by decide +kernel
theorem dX12_writeUnit_191 : decode cX12_writeUnit 191 = .ok (.if_icmp .ne 13, 3) := by decide +kernel
theorem dX12_writeUnit_194 : decode cX12_writeUnit 194 = .ok (.aload_n 0, 1) := by decide +kernel
theorem dX12_writeUnit_195 : decode cX12_writeUnit 195 = .ok (.getfield 120, 3) := by decide +kernel
theorem dX12_writeUnit_198 : decode cX12_writeUnit 198 = .ok (.iload_n 3, 1) := by decide +kernel
theorem dX12_writeUnit_199 : decode cX12_writeUnit 199 = .ok (.iconst 4, 1) := by decide +kernel
theorem dX12_writeUnit_200 : decode cX12_writeUnit 200 = .ok (.iastore, 1) := by decide +kernel
theorem dX12_writeUnit_201 : decode cX12_writeUnit 201 = .ok (.goto 105, 3) := by decide +kernel
theorem dX12_writeUnit_204 : decode cX12_writeUnit 204 = .ok (.aload_n 0, 1) := by decide +kernel
theorem dX12_writeUnit_205 : decode cX12_writeUnit 205 = .ok (.getfield 120, 3) := by decide +kernel
theorem dX12_writeUnit_208 : decode cX12_writeUnit 208 = .ok (.iload_n 3, 1) := by decide +kernel
theorem dX12_writeUnit_209 : decode cX12_writeUnit 209 = .ok (.iaload, 1) := by decide +kernel
theorem dX12_writeUnit_210 : decode cX12_writeUnit 210 = .ok (.iconst 2, 1) := by decide +kernel
theorem dX12_writeUnit_211 : decode cX12_writeUnit 211 = .ok (.if_icmp .eq 21, 3) := by decide +kernel
theorem dX12_writeUnit_214 : decode cX12_writeUnit 214 = .ok (.aload_n 0, 1) := by decide +kernel
theorem dX12_writeUnit_215 : decode cX12_writeUnit 215 = .ok (.getfield 120, 3) := by decide +kernel
theorem dX12_writeUnit_218 : decode cX12_writeUnit 218 = .ok (.iload_n 3, 1) := by decide +kernel
theorem dX12_writeUnit_219 : decode cX12_writeUnit 219 = .ok (.iaload, 1) := by decide +kernel
theorem dX12_writeUnit_220 : decode cX12_writeUnit 220 = .ok (.iconst 1, 1) := by decide +kernel
theorem dX12_writeUnit_221 : decode cX12_writeUnit 221 = .ok (.if_icmp .ne 85, 3) := by decide +kernel
theorem dX12_writeUnit_224 : decode cX12_writeUnit 224 = .ok (.aload_n 0, 1) := by decide +kernel
theorem dX12_writeUnit_225 : decode cX12_writeUnit 225 = .ok (.iload_n 3, 1) := by decide +kernel
theorem dX12_writeUnit_226 : decode cX12_writeUnit 226 = .ok (.invokevirtual 462, 3) := by decide +kernel
theorem dX12_writeUnit_229 : decode cX12_writeUnit 229 = .ok (.ifCond .le 77, 3) := by decide +kernel
theorem dX12_writeUnit_232 : decode cX12_writeUnit 232 = .ok (.aload_n 0, 1) := by decide +kernel
theorem dX12_writeUnit_233 : decode cX12_writeUnit 233 = .ok (.getfield 120, 3) := by decide +kernel
theorem dX12_writeUnit_236 : decode cX12_writeUnit 236 = .ok (.iload_n 3, 1) := by decide +kernel
theorem dX12_writeUnit_237 : decode cX12_writeUnit 237 = .ok (.iconst 1, 1) := by decide +kernel
theorem dX12_writeUnit_238 : decode cX12_writeUnit 238 = .ok (.iastore, 1) := by decide +kernel
theorem dX12_writeUnit_239 : decode cX12_writeUnit 239 = .ok (.aload_n 0, 1) := by decide +kernel
theorem dX12_writeUnit_240 : decode cX12_writeUnit 240 = .ok (.getfield 132, 3) := by decide +kernel
theorem dX12_writeUnit_243 : decode cX12_writeUnit 243 = .ok (.iload_n 3, 1) := by decide +kernel
theorem dX12_writeUnit_244 : decode cX12_writeUnit 244 = .ok (.aload_n 0, 1) := by decide +kernel
theorem dX12_writeUnit_245 : decode cX12_writeUnit 245 = .ok (.getfield 86, 3) := by decide +kernel
theorem dX12_writeUnit_248 : decode cX12_writeUnit 248 = .ok (.aload_n 0, 1) := by decide +kernel
theorem dX12_writeUnit_249 : decode cX12_writeUnit 249 = .ok (.aload_n 0, 1) := by decide +kernel
theorem dX12_writeUnit_250 : decode cX12_writeUnit 250 = .ok (.getfield 123, 3) := by decide +kernel
theorem dX12_writeUnit_253 : decode cX12_writeUnit 253 = .ok (.iload_n 3, 1) := by decide +kernel
theorem dX12_writeUnit_254 : decode cX12_writeUnit 254 = .ok (.iaload, 1) := by decide +kernel
theorem dX12_writeUnit_255 : decode cX12_writeUnit 255 = .ok (.aload_n 0, 1) := by decide +kernel
theorem dX12_writeUnit_256 : decode cX12_writeUnit 256 = .ok (.getfield 126, 3) := by decide +kernel
theorem dX12_writeUnit_259 : decode cX12_writeUnit 259 = .ok (.iload_n 3, 1) := by decide +kernel
theorem dX12_writeUnit_260 : decode cX12_writeUnit 260 = .ok (.iaload, 1) := by decide +kernel
theorem dX12_writeUnit_261 : decode cX12_writeUnit 261 = .ok (.invokevirtual 369, 3) := by decide +kernel
theorem dX12_writeUnit_264 : decode cX12_writeUnit 264 = .ok (.iaload, 1) := by decide +kernel
theorem dX12_writeUnit_265 : decode cX12_writeUnit 265 = .ok (.iastore, 1) := by decide +kernel
theorem dX12_writeUnit_266 : decode cX12_writeUnit 266 = .ok (.iconst 0, 1) := by decide +kernel
theorem dX12_writeUnit_267 : decode cX12_writeUnit 267 = .ok (.istore 4, 2) := by decide +kernel
theorem dX12_writeUnit_269 : decode cX12_writeUnit 269 = .ok (.iload 4, 2) := by decide +kernel
theorem dX12_writeUnit_271 : decode cX12_writeUnit 271 = .ok (.bipush 16, 2) := by decide +kernel
theorem dX12_writeUnit_273 : decode cX12_writeUnit 273 = .ok (.if_icmp .ge 33, 3) := by decide +kernel
theorem dX12_writeUnit_276 : decode cX12_writeUnit 276 = .ok (.aload_n 0, 1) := by decide +kernel
theorem dX12_writeUnit_277 : decode cX12_writeUnit 277 = .ok (.getfield 138, 3) := by decide +kernel
theorem dX12_writeUnit_280 : decode cX12_writeUnit 280 = .ok (.bipush 16, 2) := by decide +kernel
theorem dX12_writeUnit_282 : decode cX12_writeUnit 282 = .ok (.iload_n 3, 1) := by decide +kernel
theorem dX12_writeUnit_283 : decode cX12_writeUnit 283 = .ok (.imul, 1) := by decide +kernel
theorem dX12_writeUnit_284 : decode cX12_writeUnit 284 = .ok (.iload 4, 2) := by decide +kernel
theorem dX12_writeUnit_286 : decode cX12_writeUnit 286 = .ok (.iadd, 1) := by decide +kernel
theorem dX12_writeUnit_287 : decode cX12_writeUnit 287 = .ok (.aload_n 0, 1) := by decide +kernel
theorem dX12_writeUnit_288 : decode cX12_writeUnit 288 = .ok (.getfield 135, 3) := by decide +kernel
theorem dX12_writeUnit_291 : decode cX12_writeUnit 291 = .ok (.bipush 16, 2) := by decide +kernel
theorem dX12_writeUnit_293 : decode cX12_writeUnit 293 = .ok (.iload_n 3, 1) := by decide +kernel
theorem dX12_writeUnit_294 : decode cX12_writeUnit 294 = .ok (.imul, 1) := by decide +kernel
theorem dX12_writeUnit_295 : decode cX12_writeUnit 295 = .ok (.iload 4, 2) := by decide +kernel
theorem dX12_writeUnit_297 : decode cX12_writeUnit 297 = .ok (.iadd, 1) := by decide +kernel
theorem dX12_writeUnit_298 : decode cX12_writeUnit 298 = .ok (.iaload, 1) := by decide +kernel
theorem dX12_writeUnit_299 : decode cX12_writeUnit 299 = .ok (.iastore, 1) := by decide +kernel
theorem dX12_writeUnit_300 : decode cX12_writeUnit 300 = .ok (.iinc 4 1, 3) := by decide +kernel
theorem dX12_writeUnit_303 : decode cX12_writeUnit 303 = .ok (.goto (-34), 3) := by decide +kernel
theorem dX12_writeUnit_306 : decode cX12_writeUnit 306 = .ok (.iinc 2 1, 3) := by decide +kernel
theorem dX12_writeUnit_309 : decode cX12_writeUnit 309 = .ok (.goto (-142), 3) := by decide +kernel
theorem dX12_writeUnit_312 : decode cX12_writeUnit 312 = .ok (.iconst 0, 1) := by decide +kernel
theorem dX12_writeUnit_313 : decode cX12_writeUnit 313 = .ok (.ireturn, 1) := by decide +kernel
theorem dX12_flush_0 : decode cX12_flush 0 = .ok (.aload_n 0, 1) := by decide +kernel
theorem dX12_flush_1 : decode cX12_flush 1 = .ok (.iload_n 1, 1) := by decide +kernel
theorem dX12_flush_2 : decode cX12_flush 2 = .ok (.invokevirtual 380, 3) := by decide +kernel
theorem dX12_flush_5 : decode cX12_flush 5 = .ok (.ifCond .eq 11, 3) := by decide +kernel
theorem dX12_flush_8 : decode cX12_flush 8 = .ok (.aload_n 0, 1) := by decide +kernel
theorem dX12_flush_9 : decode cX12_flush 9 = .ok (.iload_n 1, 1) := by decide +kernel
theorem dX12_flush_10 : decode cX12_flush 10 = .ok (.invokevirtual 492, 3) := by decide +kernel
theorem dX12_flush_13 : decode cX12_flush 13 = .ok (.goto 4, 3) := by decide +kernel
theorem dX12_flush_16 : decode cX12_flush 16 = .ok (.iconst (-1), 1) := by decide +kernel
theorem dX12_flush_17 : decode cX12_flush 17 = .ok (.ireturn, 1) := by decide +kernel
theorem dX12_close_0 : decode cX12_close 0 = .ok (.aload_n 0, 1) := by decide +kernel
theorem dX12_close_1 : decode cX12_close 1 = .ok (.iload_n 1, 1) := by decide +kernel
theorem dX12_close_2 : decode cX12_close 2 = .ok (.invokevirtual 380, 3) := by decide +kernel
theorem dX12_close_5 : decode cX12_close 5 = .ok (.ifCond .eq 12, 3) := by decide +kernel
theorem dX12_close_8 : decode cX12_close 8 = .ok (.iload_n 2, 1) := by decide +kernel
theorem dX12_close_9 : decode cX12_close 9 = .ok (.ifCond .lt 8, 3) := by decide +kernel
theorem dX12_close_12 : decode cX12_close 12 = .ok (.iload_n 2, 1) := by decide +kernel
theorem dX12_close_13 : decode cX12_close 13 = .ok (.iconst 1, 1) := by decide +kernel
theorem dX12_close_14 : decode cX12_close 14 = .ok (.if_icmp .le 5, 3) := by decide +kernel
theorem dX12_close_17 : decode cX12_close 17 = .ok (.iconst (-1), 1) := by decide +kernel
theorem dX12_close_18 : decode cX12_close 18 = .ok (.ireturn, 1) := by decide +kernel
theorem dX12_close_19 : decode cX12_close 19 = .ok (.iload_n 2, 1) := by decide +kernel
theorem dX12_close_20 : decode cX12_close 20 = .ok (.iconst 1, 1) := by decide +kernel
theorem dX12_close_21 : decode cX12_close 21 = .ok (.if_icmp .ne 11, 3) := by decide +kernel
theorem dX12_close_24 : decode cX12_close 24 = .ok (.aload_n 0, 1) := by decide +kernel
theorem dX12_close_25 : decode cX12_close 25 = .ok (.iload_n 1, 1) := by decide +kernel
theorem dX12_close_26 : decode cX12_close 26 = .ok (.invokevirtual 492, 3) := by decide +kernel
theorem dX12_close_29 : decode cX12_close 29 = .ok (.goto 4, 3) := by decide +kernel
theorem dX12_close_32 : decode cX12_close 32 = .ok (.iconst 0, 1) := by decide +kernel
theorem dX12_close_33 : decode cX12_close 33 = .ok (.istore_n 3, 1) := by decide +kernel
theorem dX12_close_34 : decode cX12_close 34 = .ok (.iload_n 3, 1) := by decide +kernel
theorem dX12_close_35 : decode cX12_close 35 = .ok (.ifCond .ne 10, 3) := by decide +kernel
theorem dX12_close_38 : decode cX12_close 38 = .ok (.aload_n 0, 1) := by decide +kernel
theorem dX12_close_39 : decode cX12_close 39 = .ok (.getfield 110, 3) := by decide +kernel
theorem dX12_close_42 : decode cX12_close 42 = .ok (.iload_n 1, 1) := by decide +kernel
theorem dX12_close_43 : decode cX12_close 43 = .ok (.iconst 0, 1) := by decide +kernel
theorem dX12_close_44 : decode cX12_close 44 = .ok (.bastore, 1) := by decide +kernel
theorem dX12_close_45 : decode cX12_close 45 = .ok (.iload_n 3, 1) := by decide +kernel
theorem dX12_close_46 : decode cX12_close 46 = .ok (.ireturn, 1) := by decide +kernel
theorem dX12_outcome_0 : decode cX12_outcome 0 = .ok (.iload_n 1, 1) := by decide +kernel
theorem dX12_outcome_1 : decode cX12_outcome 1 = .ok (.tableswitch 60 0 4 #[35, 40, 45, 50, 55], 35) := by decide +kernel
theorem dX12_outcome_36 : decode cX12_outcome 36 = .ok (.aload_n 0, 1) := by decide +kernel
theorem dX12_outcome_37 : decode cX12_outcome 37 = .ok (.getfield 434, 3) := by decide +kernel
theorem dX12_outcome_40 : decode cX12_outcome 40 = .ok (.ireturn, 1) := by decide +kernel
theorem dX12_outcome_41 : decode cX12_outcome 41 = .ok (.aload_n 0, 1) := by decide +kernel
theorem dX12_outcome_42 : decode cX12_outcome 42 = .ok (.getfield 157, 3) := by decide +kernel
theorem dX12_outcome_45 : decode cX12_outcome 45 = .ok (.ireturn, 1) := by decide +kernel
theorem dX12_outcome_46 : decode cX12_outcome 46 = .ok (.aload_n 0, 1) := by decide +kernel
theorem dX12_outcome_47 : decode cX12_outcome 47 = .ok (.getfield 160, 3) := by decide +kernel
theorem dX12_outcome_50 : decode cX12_outcome 50 = .ok (.ireturn, 1) := by decide +kernel
theorem dX12_outcome_51 : decode cX12_outcome 51 = .ok (.aload_n 0, 1) := by decide +kernel
theorem dX12_outcome_52 : decode cX12_outcome 52 = .ok (.getfield 163, 3) := by decide +kernel
theorem dX12_outcome_55 : decode cX12_outcome 55 = .ok (.ireturn, 1) := by decide +kernel
theorem dX12_outcome_56 : decode cX12_outcome 56 = .ok (.aload_n 0, 1) := by decide +kernel
theorem dX12_outcome_57 : decode cX12_outcome 57 = .ok (.getfield 166, 3) := by decide +kernel
theorem dX12_outcome_60 : decode cX12_outcome 60 = .ok (.ireturn, 1) := by decide +kernel
theorem dX12_outcome_61 : decode cX12_outcome 61 = .ok (.iconst (-1), 1) := by decide +kernel
theorem dX12_outcome_62 : decode cX12_outcome 62 = .ok (.ireturn, 1) := by decide +kernel
theorem dX12_write_0 : decode cX12_write 0 = .ok (.iload_n 1, 1) := by decide +kernel
theorem dX12_write_1 : decode cX12_write 1 = .ok (.ifCond .lt 11, 3) := by decide +kernel
theorem dX12_write_4 : decode cX12_write 4 = .ok (.iload_n 1, 1) := by decide +kernel
theorem dX12_write_5 : decode cX12_write 5 = .ok (.aload_n 0, 1) := by decide +kernel
theorem dX12_write_6 : decode cX12_write 6 = .ok (.getfield 437, 3) := by decide +kernel
theorem dX12_write_9 : decode cX12_write 9 = .ok (.if_icmp .lt 5, 3) := by decide +kernel
theorem dX12_write_12 : decode cX12_write 12 = .ok (.iconst (-1), 1) := by decide +kernel
theorem dX12_write_13 : decode cX12_write 13 = .ok (.ireturn, 1) := by decide +kernel
theorem dX12_write_14 : decode cX12_write 14 = .ok (.iload_n 2, 1) := by decide +kernel
theorem dX12_write_15 : decode cX12_write 15 = .ok (.tableswitch 57 0 3 #[29, 36, 43, 50], 29) := by decide +kernel
theorem dX12_write_44 : decode cX12_write 44 = .ok (.aload_n 0, 1) := by decide +kernel
theorem dX12_write_45 : decode cX12_write 45 = .ok (.getfield 169, 3) := by decide +kernel
theorem dX12_write_48 : decode cX12_write 48 = .ok (.iload_n 1, 1) := by decide +kernel
theorem dX12_write_49 : decode cX12_write 49 = .ok (.iaload, 1) := by decide +kernel
theorem dX12_write_50 : decode cX12_write 50 = .ok (.ireturn, 1) := by decide +kernel
theorem dX12_write_51 : decode cX12_write 51 = .ok (.aload_n 0, 1) := by decide +kernel
theorem dX12_write_52 : decode cX12_write 52 = .ok (.getfield 172, 3) := by decide +kernel
theorem dX12_write_55 : decode cX12_write 55 = .ok (.iload_n 1, 1) := by decide +kernel
theorem dX12_write_56 : decode cX12_write 56 = .ok (.iaload, 1) := by decide +kernel
theorem dX12_write_57 : decode cX12_write 57 = .ok (.ireturn, 1) := by decide +kernel
theorem dX12_write_58 : decode cX12_write 58 = .ok (.aload_n 0, 1) := by decide +kernel
theorem dX12_write_59 : decode cX12_write 59 = .ok (.getfield 175, 3) := by decide +kernel
theorem dX12_write_62 : decode cX12_write 62 = .ok (.iload_n 1, 1) := by decide +kernel
theorem dX12_write_63 : decode cX12_write 63 = .ok (.iaload, 1) := by decide +kernel
theorem dX12_write_64 : decode cX12_write 64 = .ok (.ireturn, 1) := by decide +kernel
theorem dX12_write_65 : decode cX12_write 65 = .ok (.aload_n 0, 1) := by decide +kernel
theorem dX12_write_66 : decode cX12_write 66 = .ok (.getfield 178, 3) := by decide +kernel
theorem dX12_write_69 : decode cX12_write 69 = .ok (.iload_n 1, 1) := by decide +kernel
theorem dX12_write_70 : decode cX12_write 70 = .ok (.iaload, 1) := by decide +kernel
theorem dX12_write_71 : decode cX12_write 71 = .ok (.ireturn, 1) := by decide +kernel
theorem dX12_write_72 : decode cX12_write 72 = .ok (.iconst (-1), 1) := by decide +kernel
theorem dX12_write_73 : decode cX12_write 73 = .ok (.ireturn, 1) := by decide +kernel
theorem dX12_cell_0 : decode cX12_cell 0 = .ok (.aload_n 0, 1) := by decide +kernel
theorem dX12_cell_1 : decode cX12_cell 1 = .ok (.iload_n 1, 1) := by decide +kernel
theorem dX12_cell_2 : decode cX12_cell 2 = .ok (.invokevirtual 350, 3) := by decide +kernel
theorem dX12_cell_5 : decode cX12_cell 5 = .ok (.ifCond .eq 7, 3) := by decide +kernel
theorem dX12_cell_8 : decode cX12_cell 8 = .ok (.iload_n 3, 1) := by decide +kernel
theorem dX12_cell_9 : decode cX12_cell 9 = .ok (.ifCond .ge 7, 3) := by decide +kernel
theorem dX12_cell_12 : decode cX12_cell 12 = .ok (.ldc2_w 412, 3) := by decide +kernel
theorem dX12_cell_15 : decode cX12_cell 15 = .ok (.lreturn, 1) := by decide +kernel
theorem dX12_cell_16 : decode cX12_cell 16 = .ok (.aload_n 0, 1) := by decide +kernel
theorem dX12_cell_17 : decode cX12_cell 17 = .ok (.iload_n 1, 1) := by decide +kernel
theorem dX12_cell_18 : decode cX12_cell 18 = .ok (.invokevirtual 353, 3) := by decide +kernel
theorem dX12_cell_21 : decode cX12_cell 21 = .ok (.istore 4, 2) := by decide +kernel
theorem dX12_cell_23 : decode cX12_cell 23 = .ok (.aload_n 0, 1) := by decide +kernel
theorem dX12_cell_24 : decode cX12_cell 24 = .ok (.iload 4, 2) := by decide +kernel
theorem dX12_cell_26 : decode cX12_cell 26 = .ok (.iload_n 2, 1) := by decide +kernel
theorem dX12_cell_27 : decode cX12_cell 27 = .ok (.invokevirtual 369, 3) := by decide +kernel
theorem dX12_cell_30 : decode cX12_cell 30 = .ok (.istore 5, 2) := by decide +kernel
theorem dX12_cell_32 : decode cX12_cell 32 = .ok (.iload 5, 2) := by decide +kernel
theorem dX12_cell_34 : decode cX12_cell 34 = .ok (.ifCond .ge 7, 3) := by decide +kernel
theorem dX12_cell_37 : decode cX12_cell 37 = .ok (.ldc2_w 412, 3) := by decide +kernel
theorem dX12_cell_40 : decode cX12_cell 40 = .ok (.lreturn, 1) := by decide +kernel
theorem dX12_cell_41 : decode cX12_cell 41 = .ok (.aload_n 0, 1) := by decide +kernel
theorem dX12_cell_42 : decode cX12_cell 42 = .ok (.getfield 20, 3) := by decide +kernel
theorem dX12_cell_45 : decode cX12_cell 45 = .ok (.iload 4, 2) := by decide +kernel
theorem dX12_cell_47 : decode cX12_cell 47 = .ok (.iaload, 1) := by decide +kernel
theorem dX12_cell_48 : decode cX12_cell 48 = .ok (.istore 6, 2) := by decide +kernel
theorem dX12_cell_50 : decode cX12_cell 50 = .ok (.aload_n 0, 1) := by decide +kernel
theorem dX12_cell_51 : decode cX12_cell 51 = .ok (.getfield 83, 3) := by decide +kernel
theorem dX12_cell_54 : decode cX12_cell 54 = .ok (.iload 5, 2) := by decide +kernel
theorem dX12_cell_56 : decode cX12_cell 56 = .ok (.iaload, 1) := by decide +kernel
theorem dX12_cell_57 : decode cX12_cell 57 = .ok (.istore 7, 2) := by decide +kernel
theorem dX12_cell_59 : decode cX12_cell 59 = .ok (.iload_n 3, 1) := by decide +kernel
theorem dX12_cell_60 : decode cX12_cell 60 = .ok (.istore 8, 2) := by decide +kernel
theorem dX12_cell_62 : decode cX12_cell 62 = .ok (.iload 6, 2) := by decide +kernel
theorem dX12_cell_64 : decode cX12_cell 64 = .ok (.iconst 2, 1) := by decide +kernel
theorem dX12_cell_65 : decode cX12_cell 65 = .ok (.if_icmp .ne 33, 3) := by decide +kernel
theorem dX12_cell_68 : decode cX12_cell 68 = .ok (.iload 7, 2) := by decide +kernel
theorem dX12_cell_70 : decode cX12_cell 70 = .ok (.iload_n 1, 1) := by decide +kernel
theorem dX12_cell_71 : decode cX12_cell 71 = .ok (.if_icmp .eq 7, 3) := by decide +kernel
theorem dX12_cell_74 : decode cX12_cell 74 = .ok (.ldc2_w 412, 3) := by decide +kernel
theorem dX12_cell_77 : decode cX12_cell 77 = .ok (.lreturn, 1) := by decide +kernel
theorem dX12_cell_78 : decode cX12_cell 78 = .ok (.iload 8, 2) := by decide +kernel
theorem dX12_cell_80 : decode cX12_cell 80 = .ok (.ifCond .ne 12, 3) := by decide +kernel
theorem dX12_cell_83 : decode cX12_cell 83 = .ok (.aload_n 0, 1) := by decide +kernel
theorem dX12_cell_84 : decode cX12_cell 84 = .ok (.getfield 86, 3) := by decide +kernel
theorem dX12_cell_87 : decode cX12_cell 87 = .ok (.iload 5, 2) := by decide +kernel
theorem dX12_cell_89 : decode cX12_cell 89 = .ok (.iaload, 1) := by decide +kernel
theorem dX12_cell_90 : decode cX12_cell 90 = .ok (.i2l, 1) := by decide +kernel
theorem dX12_cell_91 : decode cX12_cell 91 = .ok (.lreturn, 1) := by decide +kernel
theorem dX12_cell_92 : decode cX12_cell 92 = .ok (.iinc 8 (-1), 3) := by decide +kernel
theorem dX12_cell_95 : decode cX12_cell 95 = .ok (.goto 41, 3) := by decide +kernel
theorem dX12_cell_98 : decode cX12_cell 98 = .ok (.iload 6, 2) := by decide +kernel
theorem dX12_cell_100 : decode cX12_cell 100 = .ok (.ifCond .eq 9, 3) := by decide +kernel
theorem dX12_cell_103 : decode cX12_cell 103 = .ok (.iload_n 1, 1) := by decide +kernel
theorem dX12_cell_104 : decode cX12_cell 104 = .ok (.iload 4, 2) := by decide +kernel
theorem dX12_cell_106 : decode cX12_cell 106 = .ok (.if_icmp .ne 30, 3) := by decide +kernel
theorem dX12_cell_109 : decode cX12_cell 109 = .ok (.iload 8, 2) := by decide +kernel
theorem dX12_cell_111 : decode cX12_cell 111 = .ok (.ifCond .ne 7, 3) := by decide +kernel
theorem dX12_cell_114 : decode cX12_cell 114 = .ok (.iload 7, 2) := by decide +kernel
theorem dX12_cell_116 : decode cX12_cell 116 = .ok (.i2l, 1) := by decide +kernel
theorem dX12_cell_117 : decode cX12_cell 117 = .ok (.lreturn, 1) := by decide +kernel
theorem dX12_cell_118 : decode cX12_cell 118 = .ok (.iload 8, 2) := by decide +kernel
theorem dX12_cell_120 : decode cX12_cell 120 = .ok (.iconst 1, 1) := by decide +kernel
theorem dX12_cell_121 : decode cX12_cell 121 = .ok (.if_icmp .ne 12, 3) := by decide +kernel
theorem dX12_cell_124 : decode cX12_cell 124 = .ok (.aload_n 0, 1) := by decide +kernel
theorem dX12_cell_125 : decode cX12_cell 125 = .ok (.getfield 86, 3) := by decide +kernel
theorem dX12_cell_128 : decode cX12_cell 128 = .ok (.iload 5, 2) := by decide +kernel
theorem dX12_cell_130 : decode cX12_cell 130 = .ok (.iaload, 1) := by decide +kernel
theorem dX12_cell_131 : decode cX12_cell 131 = .ok (.i2l, 1) := by decide +kernel
theorem dX12_cell_132 : decode cX12_cell 132 = .ok (.lreturn, 1) := by decide +kernel
theorem dX12_cell_133 : decode cX12_cell 133 = .ok (.iinc 8 (-2), 3) := by decide +kernel
theorem dX12_cell_136 : decode cX12_cell 136 = .ok (.iload 6, 2) := by decide +kernel
theorem dX12_cell_138 : decode cX12_cell 138 = .ok (.iconst 1, 1) := by decide +kernel
theorem dX12_cell_139 : decode cX12_cell 139 = .ok (.if_icmp .ne 18, 3) := by decide +kernel
theorem dX12_cell_142 : decode cX12_cell 142 = .ok (.aload_n 0, 1) := by decide +kernel
theorem dX12_cell_143 : decode cX12_cell 143 = .ok (.iconst 0, 1) := by decide +kernel
theorem dX12_cell_144 : decode cX12_cell 144 = .ok (.iload 7, 2) := by decide +kernel
theorem dX12_cell_146 : decode cX12_cell 146 = .ok (.iload_n 1, 1) := by decide +kernel
theorem dX12_cell_147 : decode cX12_cell 147 = .ok (.invokevirtual 315, 3) := by decide +kernel
theorem dX12_cell_150 : decode cX12_cell 150 = .ok (.ifCond .ne 7, 3) := by decide +kernel
theorem dX12_cell_153 : decode cX12_cell 153 = .ok (.ldc2_w 412, 3) := by decide +kernel
theorem dX12_cell_156 : decode cX12_cell 156 = .ok (.lreturn, 1) := by decide +kernel
theorem dX12_cell_157 : decode cX12_cell 157 = .ok (.iconst 0, 1) := by decide +kernel
theorem dX12_cell_158 : decode cX12_cell 158 = .ok (.istore 9, 2) := by decide +kernel
theorem dX12_cell_160 : decode cX12_cell 160 = .ok (.iload 9, 2) := by decide +kernel
theorem dX12_cell_162 : decode cX12_cell 162 = .ok (.aload_n 0, 1) := by decide +kernel
theorem dX12_cell_163 : decode cX12_cell 163 = .ok (.getfield 341, 3) := by decide +kernel
theorem dX12_cell_166 : decode cX12_cell 166 = .ok (.if_icmp .ge 160, 3) := by decide +kernel
theorem dX12_cell_169 : decode cX12_cell 169 = .ok (.iload 6, 2) := by decide +kernel
theorem dX12_cell_171 : decode cX12_cell 171 = .ok (.ifCond .ne 22, 3) := by decide +kernel
theorem dX12_cell_174 : decode cX12_cell 174 = .ok (.aload_n 0, 1) := by decide +kernel
theorem dX12_cell_175 : decode cX12_cell 175 = .ok (.iload 9, 2) := by decide +kernel
theorem dX12_cell_177 : decode cX12_cell 177 = .ok (.invokevirtual 353, 3) := by decide +kernel
theorem dX12_cell_180 : decode cX12_cell 180 = .ok (.iload 4, 2) := by decide +kernel
theorem dX12_cell_182 : decode cX12_cell 182 = .ok (.if_icmp .ne 7, 3) := by decide +kernel
theorem dX12_cell_185 : decode cX12_cell 185 = .ok (.iconst 1, 1) := by decide +kernel
theorem dX12_cell_186 : decode cX12_cell 186 = .ok (.goto 18, 3) := by decide +kernel
theorem dX12_cell_189 : decode cX12_cell 189 = .ok (.iconst 0, 1) := by decide +kernel
theorem dX12_cell_190 : decode cX12_cell 190 = .ok (.goto 14, 3) := by decide +kernel
theorem dX12_cell_193 : decode cX12_cell 193 = .ok (.iload 9, 2) := by decide +kernel
theorem dX12_cell_195 : decode cX12_cell 195 = .ok (.iload_n 1, 1) := by decide +kernel
theorem dX12_cell_196 : decode cX12_cell 196 = .ok (.if_icmp .ne 7, 3) := by decide +kernel
theorem dX12_cell_199 : decode cX12_cell 199 = .ok (.iconst 1, 1) := by decide +kernel
theorem dX12_cell_200 : decode cX12_cell 200 = .ok (.goto 4, 3) := by decide +kernel
theorem dX12_cell_203 : decode cX12_cell 203 = .ok (.iconst 0, 1) := by decide +kernel
theorem dX12_cell_204 : decode cX12_cell 204 = .ok (.istore 10, 2) := by decide +kernel
theorem dX12_cell_206 : decode cX12_cell 206 = .ok (.iload 10, 2) := by decide +kernel
