theorem dX4_push_24 : decode cX4_push 24 = .ok (.getfield 71, 3) := by decide +kernel
theorem dX4_push_27 : decode cX4_push 27 = .ok (.iconst 1, 1) := by decide +kernel
theorem dX4_push_28 : decode cX4_push 28 = .ok (.iadd, 1) := by decide +kernel
theorem dX4_push_29 : decode cX4_push 29 = .ok (.putfield 71, 3) := by decide +kernel
theorem dX4_push_32 : decode cX4_push 32 = .ok (.return_, 1) := by decide +kernel
theorem dX4_readTerm_0 : decode cX4_readTerm 0 = .ok (.aload_n 0, 1) := by decide +kernel
theorem dX4_readTerm_1 : decode cX4_readTerm 1 = .ok (.getfield 15, 3) := by decide +kernel
theorem dX4_readTerm_4 : decode cX4_readTerm 4 = .ok (.ldc2_w 119, 3) := by decide +kernel
theorem dX4_readTerm_7 : decode cX4_readTerm 7 = .ok (.invokevirtual 111, 3) := by decide +kernel
theorem dX4_readTerm_10 : decode cX4_readTerm 10 = .ok (.ifCond .eq 25, 3) := by decide +kernel
theorem dX4_readTerm_13 : decode cX4_readTerm 13 = .ok (.aload_n 0, 1) := by decide +kernel
theorem dX4_readTerm_14 : decode cX4_readTerm 14 = .ok (.getfield 19, 3) := by decide +kernel
theorem dX4_readTerm_17 : decode cX4_readTerm 17 = .ok (.iconst 3, 1) := by decide +kernel
theorem dX4_readTerm_18 : decode cX4_readTerm 18 = .ok (.invokevirtual 116, 3) := by decide +kernel
theorem dX4_readTerm_21 : decode cX4_readTerm 21 = .ok (.aload_n 0, 1) := by decide +kernel
theorem dX4_readTerm_22 : decode cX4_readTerm 22 = .ok (.iconst 1, 1) := by decide +kernel
theorem dX4_readTerm_23 : decode cX4_readTerm 23 = .ok (.invokevirtual 121, 3) := by decide +kernel
theorem dX4_readTerm_26 : decode cX4_readTerm 26 = .ok (.ifnull 7, 3) := by decide +kernel
theorem dX4_readTerm_29 : decode cX4_readTerm 29 = .ok (.iconst 1, 1) := by decide +kernel
theorem dX4_readTerm_30 : decode cX4_readTerm 30 = .ok (.goto 4, 3) := by decide +kernel
theorem dX4_readTerm_33 : decode cX4_readTerm 33 = .ok (.iconst 0, 1) := by decide +kernel
theorem dX4_readTerm_34 : decode cX4_readTerm 34 = .ok (.ireturn, 1) := by decide +kernel
theorem dX4_readTerm_35 : decode cX4_readTerm 35 = .ok (.aload_n 0, 1) := by decide +kernel
theorem dX4_readTerm_36 : decode cX4_readTerm 36 = .ok (.getfield 19, 3) := by decide +kernel
theorem dX4_readTerm_39 : decode cX4_readTerm 39 = .ok (.iconst 4, 1) := by decide +kernel
theorem dX4_readTerm_40 : decode cX4_readTerm 40 = .ok (.invokevirtual 116, 3) := by decide +kernel
theorem dX4_readTerm_43 : decode cX4_readTerm 43 = .ok (.aload_n 0, 1) := by decide +kernel
theorem dX4_readTerm_44 : decode cX4_readTerm 44 = .ok (.iconst 0, 1) := by decide +kernel
theorem dX4_readTerm_45 : decode cX4_readTerm 45 = .ok (.invokevirtual 121, 3) := by decide +kernel
theorem dX4_readTerm_48 : decode cX4_readTerm 48 = .ok (.astore_n 1, 1) := by decide +kernel
theorem dX4_readTerm_49 : decode cX4_readTerm 49 = .ok (.aload_n 1, 1) := by decide +kernel
theorem dX4_readTerm_50 : decode cX4_readTerm 50 = .ok (.ifnull 22, 3) := by decide +kernel
theorem dX4_readTerm_53 : decode cX4_readTerm 53 = .ok (.aload_n 0, 1) := by decide +kernel
theorem dX4_readTerm_54 : decode cX4_readTerm 54 = .ok (.invokevirtual 125, 3) := by decide +kernel
theorem dX4_readTerm_57 : decode cX4_readTerm 57 = .ok (.ifCond .eq 15, 3) := by decide +kernel
theorem dX4_readTerm_60 : decode cX4_readTerm 60 = .ok (.aload_n 0, 1) := by decide +kernel
theorem dX4_readTerm_61 : decode cX4_readTerm 61 = .ok (.aload_n 1, 1) := by decide +kernel
theorem dX4_readTerm_62 : decode cX4_readTerm 62 = .ok (.invokevirtual 128, 3) := by decide +kernel
theorem dX4_readTerm_65 : decode cX4_readTerm 65 = .ok (.ifCond .eq 7, 3) := by decide +kernel
theorem dX4_readTerm_68 : decode cX4_readTerm 68 = .ok (.iconst 1, 1) := by decide +kernel
theorem dX4_readTerm_69 : decode cX4_readTerm 69 = .ok (.goto 4, 3) := by decide +kernel
theorem dX4_readTerm_72 : decode cX4_readTerm 72 = .ok (.iconst 0, 1) := by decide +kernel
theorem dX4_readTerm_73 : decode cX4_readTerm 73 = .ok (.ireturn, 1) := by decide +kernel
theorem dX4_readPath_0 : decode cX4_readPath 0 = .ok (.aload_n 0, 1) := by decide +kernel
theorem dX4_readPath_1 : decode cX4_readPath 1 = .ok (.getfield 19, 3) := by decide +kernel
theorem dX4_readPath_4 : decode cX4_readPath 4 = .ok (.getfield 132, 3) := by decide +kernel
theorem dX4_readPath_7 : decode cX4_readPath 7 = .ok (.istore_n 2, 1) := by decide +kernel
theorem dX4_readPath_8 : decode cX4_readPath 8 = .ok (.aload_n 0, 1) := by decide +kernel
theorem dX4_readPath_9 : decode cX4_readPath 9 = .ok (.getfield 19, 3) := by decide +kernel
theorem dX4_readPath_12 : decode cX4_readPath 12 = .ok (.iconst 0, 1) := by decide +kernel
theorem dX4_readPath_13 : decode cX4_readPath 13 = .ok (.invokevirtual 116, 3) := by decide +kernel
theorem dX4_readPath_16 : decode cX4_readPath 16 = .ok (.aload_n 0, 1) := by decide +kernel
theorem dX4_readPath_17 : decode cX4_readPath 17 = .ok (.getfield 19, 3) := by decide +kernel
theorem dX4_readPath_20 : decode cX4_readPath 20 = .ok (.getfield 135, 3) := by decide +kernel
theorem dX4_readPath_23 : decode cX4_readPath 23 = .ok (.istore_n 3, 1) := by decide +kernel
theorem dX4_readPath_24 : decode cX4_readPath 24 = .ok (.iconst 1, 1) := by decide +kernel
theorem dX4_readPath_25 : decode cX4_readPath 25 = .ok (.istore 4, 2) := by decide +kernel
theorem dX4_readPath_27 : decode cX4_readPath 27 = .ok (.aconst_null, 1) := by decide +kernel
theorem dX4_readPath_28 : decode cX4_readPath 28 = .ok (.astore 5, 2) := by decide +kernel
theorem dX4_readPath_30 : decode cX4_readPath 30 = .ok (.iconst 1, 1) := by decide +kernel
theorem dX4_readPath_31 : decode cX4_readPath 31 = .ok (.istore 6, 2) := by decide +kernel
theorem dX4_readPath_33 : decode cX4_readPath 33 = .ok (.iload 6, 2) := by decide +kernel
theorem dX4_readPath_35 : decode cX4_readPath 35 = .ok (.sipush 3000, 3) := by decide +kernel
theorem dX4_readPath_38 : decode cX4_readPath 38 = .ok (.if_icmp .gt 146, 3) := by decide +kernel
theorem dX4_readPath_41 : decode cX4_readPath 41 = .ok (.iload 4, 2) := by decide +kernel
theorem dX4_readPath_43 : decode cX4_readPath 43 = .ok (.ifCond .eq 141, 3) := by decide +kernel
theorem dX4_readPath_46 : decode cX4_readPath 46 = .ok (.aload_n 0, 1) := by decide +kernel
theorem dX4_readPath_47 : decode cX4_readPath 47 = .ok (.getfield 15, 3) := by decide +kernel
theorem dX4_readPath_50 : decode cX4_readPath 50 = .ok (.invokevirtual 27, 3) := by decide +kernel
theorem dX4_readPath_53 : decode cX4_readPath 53 = .ok (.ifCond .ne 13, 3) := by decide +kernel
theorem dX4_readPath_56 : decode cX4_readPath 56 = .ok (.aload_n 0, 1) := by decide +kernel
theorem dX4_readPath_57 : decode cX4_readPath 57 = .ok (.getfield 15, 3) := by decide +kernel
theorem dX4_readPath_60 : decode cX4_readPath 60 = .ok (.invokevirtual 33, 3) := by decide +kernel
theorem dX4_readPath_63 : decode cX4_readPath 63 = .ok (.pop, 1) := by decide +kernel
theorem dX4_readPath_64 : decode cX4_readPath 64 = .ok (.aconst_null, 1) := by decide +kernel
theorem dX4_readPath_65 : decode cX4_readPath 65 = .ok (.areturn, 1) := by decide +kernel
theorem dX4_readPath_66 : decode cX4_readPath 66 = .ok (.aload_n 0, 1) := by decide +kernel
theorem dX4_readPath_67 : decode cX4_readPath 67 = .ok (.getfield 23, 3) := by decide +kernel
theorem dX4_readPath_70 : decode cX4_readPath 70 = .ok (.iload_n 3, 1) := by decide +kernel
theorem dX4_readPath_71 : decode cX4_readPath 71 = .ok (.aload_n 0, 1) := by decide +kernel
theorem dX4_readPath_72 : decode cX4_readPath 72 = .ok (.getfield 15, 3) := by decide +kernel
theorem dX4_readPath_75 : decode cX4_readPath 75 = .ok (.invokevirtual 36, 3) := by decide +kernel
theorem dX4_readPath_78 : decode cX4_readPath 78 = .ok (.invokevirtual 138, 3) := by decide +kernel
theorem dX4_readPath_81 : decode cX4_readPath 81 = .ok (.istore 7, 2) := by decide +kernel
theorem dX4_readPath_83 : decode cX4_readPath 83 = .ok (.aload_n 0, 1) := by decide +kernel
theorem dX4_readPath_84 : decode cX4_readPath 84 = .ok (.getfield 23, 3) := by decide +kernel
theorem dX4_readPath_87 : decode cX4_readPath 87 = .ok (.iload_n 3, 1) := by decide +kernel
theorem dX4_readPath_88 : decode cX4_readPath 88 = .ok (.iload 7, 2) := by decide +kernel
theorem dX4_readPath_90 : decode cX4_readPath 90 = .ok (.invokevirtual 142, 3) := by decide +kernel
theorem dX4_readPath_93 : decode cX4_readPath 93 = .ok (.astore 5, 2) := by decide +kernel
theorem dX4_readPath_95 : decode cX4_readPath 95 = .ok (.aload_n 0, 1) := by decide +kernel
theorem dX4_readPath_96 : decode cX4_readPath 96 = .ok (.getfield 15, 3) := by decide +kernel
theorem dX4_readPath_99 : decode cX4_readPath 99 = .ok (.ldc2_w 146, 3) := by decide +kernel
theorem dX4_readPath_102 : decode cX4_readPath 102 = .ok (.invokevirtual 148, 3) := by decide +kernel
theorem dX4_readPath_105 : decode cX4_readPath 105 = .ok (.istore 4, 2) := by decide +kernel
theorem dX4_readPath_107 : decode cX4_readPath 107 = .ok (.aload 5, 2) := by decide +kernel
theorem dX4_readPath_109 : decode cX4_readPath 109 = .ok (.ifnull 14, 3) := by decide +kernel
theorem dX4_readPath_112 : decode cX4_readPath 112 = .ok (.aload 5, 2) := by decide +kernel
theorem dX4_readPath_114 : decode cX4_readPath 114 = .ok (.iload 4, 2) := by decide +kernel
theorem dX4_readPath_116 : decode cX4_readPath 116 = .ok (.iload_n 1, 1) := by decide +kernel
theorem dX4_readPath_117 : decode cX4_readPath 117 = .ok (.invokestatic 151, 3) := by decide +kernel
theorem dX4_readPath_120 : decode cX4_readPath 120 = .ok (.ifCond .ne 14, 3) := by decide +kernel
theorem dX4_readPath_123 : decode cX4_readPath 123 = .ok (.aload_n 0, 1) := by decide +kernel
theorem dX4_readPath_124 : decode cX4_readPath 124 = .ok (.getfield 15, 3) := by decide +kernel
theorem dX4_readPath_127 : decode cX4_readPath 127 = .ok (.iconst 3, 1) := by decide +kernel
theorem dX4_readPath_128 : decode cX4_readPath 128 = .ok (.invokevirtual 46, 3) := by decide +kernel
theorem dX4_readPath_131 : decode cX4_readPath 131 = .ok (.pop, 1) := by decide +kernel
theorem dX4_readPath_132 : decode cX4_readPath 132 = .ok (.aconst_null, 1) := by decide +kernel
theorem dX4_readPath_133 : decode cX4_readPath 133 = .ok (.areturn, 1) := by decide +kernel
theorem dX4_readPath_134 : decode cX4_readPath 134 = .ok (.aload_n 0, 1) := by decide +kernel
theorem dX4_readPath_135 : decode cX4_readPath 135 = .ok (.getfield 19, 3) := by decide +kernel
theorem dX4_readPath_138 : decode cX4_readPath 138 = .ok (.iload 7, 2) := by decide +kernel
theorem dX4_readPath_140 : decode cX4_readPath 140 = .ok (.invokevirtual 116, 3) := by decide +kernel
theorem dX4_readPath_143 : decode cX4_readPath 143 = .ok (.aload_n 0, 1) := by decide +kernel
theorem dX4_readPath_144 : decode cX4_readPath 144 = .ok (.getfield 19, 3) := by decide +kernel
theorem dX4_readPath_147 : decode cX4_readPath 147 = .ok (.iload_n 2, 1) := by decide +kernel
theorem dX4_readPath_148 : decode cX4_readPath 148 = .ok (.iload 6, 2) := by decide +kernel
theorem dX4_readPath_150 : decode cX4_readPath 150 = .ok (.invokevirtual 155, 3) := by decide +kernel
theorem dX4_readPath_153 : decode cX4_readPath 153 = .ok (.aload_n 0, 1) := by decide +kernel
theorem dX4_readPath_154 : decode cX4_readPath 154 = .ok (.getfield 15, 3) := by decide +kernel
theorem dX4_readPath_157 : decode cX4_readPath 157 = .ok (.invokevirtual 56, 3) := by decide +kernel
theorem dX4_readPath_160 : decode cX4_readPath 160 = .ok (.iload 4, 2) := by decide +kernel
theorem dX4_readPath_162 : decode cX4_readPath 162 = .ok (.ifCond .eq 16, 3) := by decide +kernel
theorem dX4_readPath_165 : decode cX4_readPath 165 = .ok (.aload_n 0, 1) := by decide +kernel
theorem dX4_readPath_166 : decode cX4_readPath 166 = .ok (.getfield 15, 3) := by decide +kernel
theorem dX4_readPath_169 : decode cX4_readPath 169 = .ok (.invokevirtual 56, 3) := by decide +kernel
theorem dX4_readPath_172 : decode cX4_readPath 172 = .ok (.aload 5, 2) := by decide +kernel
theorem dX4_readPath_174 : decode cX4_readPath 174 = .ok (.getfield 159, 3) := by decide +kernel
theorem dX4_readPath_177 : decode cX4_readPath 177 = .ok (.istore_n 3, 1) := by decide +kernel
theorem dX4_readPath_178 : decode cX4_readPath 178 = .ok (.iinc 6 1, 3) := by decide +kernel
theorem dX4_readPath_181 : decode cX4_readPath 181 = .ok (.goto (-148), 3) := by decide +kernel
theorem dX4_readPath_184 : decode cX4_readPath 184 = .ok (.aload 5, 2) := by decide +kernel
theorem dX4_readPath_186 : decode cX4_readPath 186 = .ok (.areturn, 1) := by decide +kernel
theorem dX4_canStand_0 : decode cX4_canStand 0 = .ok (.iload_n 1, 1) := by decide +kernel
theorem dX4_canStand_1 : decode cX4_canStand 1 = .ok (.ifCond .ne 7, 3) := by decide +kernel
theorem dX4_canStand_4 : decode cX4_canStand 4 = .ok (.iload_n 2, 1) := by decide +kernel
theorem dX4_canStand_5 : decode cX4_canStand 5 = .ok (.ifCond .eq 17, 3) := by decide +kernel
theorem dX4_canStand_8 : decode cX4_canStand 8 = .ok (.aload_n 0, 1) := by decide +kernel
theorem dX4_canStand_9 : decode cX4_canStand 9 = .ok (.getfield 164, 3) := by decide +kernel
theorem dX4_canStand_12 : decode cX4_canStand 12 = .ok (.iconst 4, 1) := by decide +kernel
theorem dX4_canStand_13 : decode cX4_canStand 13 = .ok (.if_icmp .ne 7, 3) := by decide +kernel
theorem dX4_canStand_16 : decode cX4_canStand 16 = .ok (.iconst 1, 1) := by decide +kernel
theorem dX4_canStand_17 : decode cX4_canStand 17 = .ok (.goto 4, 3) := by decide +kernel
theorem dX4_canStand_20 : decode cX4_canStand 20 = .ok (.iconst 0, 1) := by decide +kernel
theorem dX4_canStand_21 : decode cX4_canStand 21 = .ok (.ireturn, 1) := by decide +kernel
theorem dX4_canStand_22 : decode cX4_canStand 22 = .ok (.aload_n 0, 1) := by decide +kernel
theorem dX4_canStand_23 : decode cX4_canStand 23 = .ok (.invokevirtual 167, 3) := by decide +kernel
theorem dX4_canStand_26 : decode cX4_canStand 26 = .ok (.ifCond .ne 7, 3) := by decide +kernel
theorem dX4_canStand_29 : decode cX4_canStand 29 = .ok (.iconst 1, 1) := by decide +kernel
theorem dX4_canStand_30 : decode cX4_canStand 30 = .ok (.goto 4, 3) := by decide +kernel
theorem dX4_canStand_33 : decode cX4_canStand 33 = .ok (.iconst 0, 1) := by decide +kernel
theorem dX4_canStand_34 : decode cX4_canStand 34 = .ok (.ireturn, 1) := by decide +kernel
theorem dX4_readSign_0 : decode cX4_readSign 0 = .ok (.aload_n 0, 1) := by decide +kernel
theorem dX4_readSign_1 : decode cX4_readSign 1 = .ok (.getfield 15, 3) := by decide +kernel
theorem dX4_readSign_4 : decode cX4_readSign 4 = .ok (.ldc2_w 170, 3) := by decide +kernel
theorem dX4_readSign_7 : decode cX4_readSign 7 = .ok (.invokevirtual 102, 3) := by decide +kernel
theorem dX4_readSign_10 : decode cX4_readSign 10 = .ok (.ifCond .ne 37, 3) := by decide +kernel
theorem dX4_readSign_13 : decode cX4_readSign 13 = .ok (.aload_n 0, 1) := by decide +kernel
theorem dX4_readSign_14 : decode cX4_readSign 14 = .ok (.getfield 15, 3) := by decide +kernel
theorem dX4_readSign_17 : decode cX4_readSign 17 = .ok (.ldc2_w 172, 3) := by decide +kernel
theorem dX4_readSign_20 : decode cX4_readSign 20 = .ok (.invokevirtual 102, 3) := by decide +kernel
theorem dX4_readSign_23 : decode cX4_readSign 23 = .ok (.ifCond .ne 24, 3) := by decide +kernel
theorem dX4_readSign_26 : decode cX4_readSign 26 = .ok (.aload_n 0, 1) := by decide +kernel
theorem dX4_readSign_27 : decode cX4_readSign 27 = .ok (.getfield 15, 3) := by decide +kernel
theorem dX4_readSign_30 : decode cX4_readSign 30 = .ok (.ldc2_w 174, 3) := by decide +kernel
theorem dX4_readSign_33 : decode cX4_readSign 33 = .ok (.invokevirtual 102, 3) := by decide +kernel
theorem dX4_readSign_36 : decode cX4_readSign 36 = .ok (.ifCond .ne 11, 3) := by decide +kernel
theorem dX4_readSign_39 : decode cX4_readSign 39 = .ok (.aload_n 0, 1) := by decide +kernel
theorem dX4_readSign_40 : decode cX4_readSign 40 = .ok (.getfield 15, 3) := by decide +kernel
theorem dX4_readSign_43 : decode cX4_readSign 43 = .ok (.invokevirtual 33, 3) := by decide +kernel
theorem dX4_readSign_46 : decode cX4_readSign 46 = .ok (.ireturn, 1) := by decide +kernel
theorem dX4_readSign_47 : decode cX4_readSign 47 = .ok (.aload_n 0, 1) := by decide +kernel
theorem dX4_readSign_48 : decode cX4_readSign 48 = .ok (.getfield 19, 3) := by decide +kernel
theorem dX4_readSign_51 : decode cX4_readSign 51 = .ok (.aload_n 0, 1) := by decide +kernel
theorem dX4_readSign_52 : decode cX4_readSign 52 = .ok (.getfield 15, 3) := by decide +kernel
theorem dX4_readSign_55 : decode cX4_readSign 55 = .ok (.invokevirtual 36, 3) := by decide +kernel
theorem dX4_readSign_58 : decode cX4_readSign 58 = .ok (.l2i, 1) := by decide +kernel
theorem dX4_readSign_59 : decode cX4_readSign 59 = .ok (.invokevirtual 116, 3) := by decide +kernel
theorem dX4_readSign_62 : decode cX4_readSign 62 = .ok (.aload_n 0, 1) := by decide +kernel
theorem dX4_readSign_63 : decode cX4_readSign 63 = .ok (.getfield 15, 3) := by decide +kernel
theorem dX4_readSign_66 : decode cX4_readSign 66 = .ok (.invokevirtual 56, 3) := by decide +kernel
theorem dX4_readSign_69 : decode cX4_readSign 69 = .ok (.iconst 1, 1) := by decide +kernel
theorem dX4_readSign_70 : decode cX4_readSign 70 = .ok (.ireturn, 1) := by decide +kernel
theorem dX4_readOperand_0 : decode cX4_readOperand 0 = .ok (.aload_n 0, 1) := by decide +kernel
theorem dX4_readOperand_1 : decode cX4_readOperand 1 = .ok (.getfield 15, 3) := by decide +kernel
theorem dX4_readOperand_4 : decode cX4_readOperand 4 = .ok (.invokevirtual 27, 3) := by decide +kernel
theorem dX4_readOperand_7 : decode cX4_readOperand 7 = .ok (.ifCond .eq 50, 3) := by decide +kernel
theorem dX4_readOperand_10 : decode cX4_readOperand 10 = .ok (.aload_n 0, 1) := by decide +kernel
theorem dX4_readOperand_11 : decode cX4_readOperand 11 = .ok (.getfield 23, 3) := by decide +kernel
theorem dX4_readOperand_14 : decode cX4_readOperand 14 = .ok (.aload_n 1, 1) := by decide +kernel
theorem dX4_readOperand_15 : decode cX4_readOperand 15 = .ok (.aload_n 0, 1) := by decide +kernel
theorem dX4_readOperand_16 : decode cX4_readOperand 16 = .ok (.getfield 15, 3) := by decide +kernel
theorem dX4_readOperand_19 : decode cX4_readOperand 19 = .ok (.invokevirtual 36, 3) := by decide +kernel
theorem dX4_readOperand_22 : decode cX4_readOperand 22 = .ok (.invokevirtual 176, 3) := by decide +kernel
theorem dX4_readOperand_25 : decode cX4_readOperand 25 = .ok (.istore_n 2, 1) := by decide +kernel
theorem dX4_readOperand_26 : decode cX4_readOperand 26 = .ok (.iload_n 2, 1) := by decide +kernel
theorem dX4_readOperand_27 : decode cX4_readOperand 27 = .ok (.iconst (-1), 1) := by decide +kernel
theorem dX4_readOperand_28 : decode cX4_readOperand 28 = .ok (.if_icmp .ne 12, 3) := by decide +kernel
theorem dX4_readOperand_31 : decode cX4_readOperand 31 = .ok (.aload_n 0, 1) := by decide +kernel
theorem dX4_readOperand_32 : decode cX4_readOperand 32 = .ok (.getfield 15, 3) := by decide +kernel
theorem dX4_readOperand_35 : decode cX4_readOperand 35 = .ok (.iconst 3, 1) := by decide +kernel
theorem dX4_readOperand_36 : decode cX4_readOperand 36 = .ok (.invokevirtual 46, 3) := by decide +kernel
theorem dX4_readOperand_39 : decode cX4_readOperand 39 = .ok (.ireturn, 1) := by decide +kernel
theorem dX4_readOperand_40 : decode cX4_readOperand 40 = .ok (.aload_n 0, 1) := by decide +kernel
theorem dX4_readOperand_41 : decode cX4_readOperand 41 = .ok (.getfield 19, 3) := by decide +kernel
theorem dX4_readOperand_44 : decode cX4_readOperand 44 = .ok (.iload_n 2, 1) := by decide +kernel
theorem dX4_readOperand_45 : decode cX4_readOperand 45 = .ok (.invokevirtual 116, 3) := by decide +kernel
theorem dX4_readOperand_48 : decode cX4_readOperand 48 = .ok (.aload_n 0, 1) := by decide +kernel
theorem dX4_readOperand_49 : decode cX4_readOperand 49 = .ok (.getfield 15, 3) := by decide +kernel
theorem dX4_readOperand_52 : decode cX4_readOperand 52 = .ok (.invokevirtual 56, 3) := by decide +kernel
theorem dX4_readOperand_55 : decode cX4_readOperand 55 = .ok (.iconst 1, 1) := by decide +kernel
theorem dX4_readOperand_56 : decode cX4_readOperand 56 = .ok (.ireturn, 1) := by decide +kernel
theorem dX4_readOperand_57 : decode cX4_readOperand 57 = .ok (.aload_n 0, 1) := by decide +kernel
theorem dX4_readOperand_58 : decode cX4_readOperand 58 = .ok (.getfield 15, 3) := by decide +kernel
theorem dX4_readOperand_61 : decode cX4_readOperand 61 = .ok (.ldc2_w 180, 3) := by decide +kernel
theorem dX4_readOperand_64 : decode cX4_readOperand 64 = .ok (.invokevirtual 111, 3) := by decide +kernel
theorem dX4_readOperand_67 : decode cX4_readOperand 67 = .ok (.istore_n 2, 1) := by decide +kernel
theorem dX4_readOperand_68 : decode cX4_readOperand 68 = .ok (.aload_n 0, 1) := by decide +kernel
theorem dX4_readOperand_69 : decode cX4_readOperand 69 = .ok (.getfield 15, 3) := by decide +kernel
theorem dX4_readOperand_72 : decode cX4_readOperand 72 = .ok (.invokevirtual 182, 3) := by decide +kernel
theorem dX4_readOperand_75 : decode cX4_readOperand 75 = .ok (.ifCond .ne 11, 3) := by decide +kernel
theorem dX4_readOperand_78 : decode cX4_readOperand 78 = .ok (.aload_n 0, 1) := by decide +kernel
theorem dX4_readOperand_79 : decode cX4_readOperand 79 = .ok (.getfield 15, 3) := by decide +kernel
theorem dX4_readOperand_82 : decode cX4_readOperand 82 = .ok (.invokevirtual 33, 3) := by decide +kernel
theorem dX4_readOperand_85 : decode cX4_readOperand 85 = .ok (.ireturn, 1) := by decide +kernel
theorem dX4_readOperand_86 : decode cX4_readOperand 86 = .ok (.aload_n 0, 1) := by decide +kernel
theorem dX4_readOperand_87 : decode cX4_readOperand 87 = .ok (.getfield 19, 3) := by decide +kernel
theorem dX4_readOperand_90 : decode cX4_readOperand 90 = .ok (.iload_n 2, 1) := by decide +kernel
theorem dX4_readOperand_91 : decode cX4_readOperand 91 = .ok (.ifCond .eq 14, 3) := by decide +kernel
theorem dX4_readOperand_94 : decode cX4_readOperand 94 = .ok (.aload_n 0, 1) := by decide +kernel
theorem dX4_readOperand_95 : decode cX4_readOperand 95 = .ok (.getfield 15, 3) := by decide +kernel
theorem dX4_readOperand_98 : decode cX4_readOperand 98 = .ok (.invokevirtual 185, 3) := by decide +kernel
theorem dX4_readOperand_101 : decode cX4_readOperand 101 = .ok (.ineg, 1) := by decide +kernel
theorem dX4_readOperand_102 : decode cX4_readOperand 102 = .ok (.goto 10, 3) := by decide +kernel
theorem dX4_readOperand_105 : decode cX4_readOperand 105 = .ok (.aload_n 0, 1) := by decide +kernel
theorem dX4_readOperand_106 : decode cX4_readOperand 106 = .ok (.getfield 15, 3) := by decide +kernel
theorem dX4_readOperand_109 : decode cX4_readOperand 109 = .ok (.invokevirtual 185, 3) := by decide +kernel
theorem dX4_readOperand_112 : decode cX4_readOperand 112 = .ok (.invokevirtual 116, 3) := by decide +kernel
theorem dX4_readOperand_115 : decode cX4_readOperand 115 = .ok (.aload_n 0, 1) := by decide +kernel
theorem dX4_readOperand_116 : decode cX4_readOperand 116 = .ok (.getfield 15, 3) := by decide +kernel
theorem dX4_readOperand_119 : decode cX4_readOperand 119 = .ok (.invokevirtual 56, 3) := by decide +kernel
theorem dX4_readOperand_122 : decode cX4_readOperand 122 = .ok (.iconst 1, 1) := by decide +kernel
theorem dX4_readOperand_123 : decode cX4_readOperand 123 = .ok (.ireturn, 1) := by decide +kernel
theorem dX5_init_0 : decode cX5_init 0 = .ok (.aload_n 0, 1) := by decide +kernel
theorem dX5_init_1 : decode cX5_init 1 = .ok (.invokespecial 3, 3) := by decide +kernel
theorem dX5_init_4 : decode cX5_init 4 = .ok (.aload_n 0, 1) := by decide +kernel
theorem dX5_init_5 : decode cX5_init 5 = .ok (.bipush 12, 2) := by decide +kernel
theorem dX5_init_7 : decode cX5_init 7 = .ok (.newarray .int, 2) := by decide +kernel
theorem dX5_init_9 : decode cX5_init 9 = .ok (.putfield 9, 3) := by decide +kernel
theorem dX5_init_12 : decode cX5_init 12 = .ok (.aload_n 0, 1) := by decide +kernel
theorem dX5_init_13 : decode cX5_init 13 = .ok (.sipush 720, 3) := by decide +kernel
theorem dX5_init_16 : decode cX5_init 16 = .ok (.newarray .int, 2) := by decide +kernel
theorem dX5_init_18 : decode cX5_init 18 = .ok (.putfield 15, 3) := by decide +kernel
theorem dX5_init_21 : decode cX5_init 21 = .ok (.aload_n 0, 1) := by decide +kernel
theorem dX5_init_22 : decode cX5_init 22 = .ok (.sipush 720, 3) := by decide +kernel
theorem dX5_init_25 : decode cX5_init 25 = .ok (.newarray .int, 2) := by decide +kernel
theorem dX5_init_27 : decode cX5_init 27 = .ok (.putfield 18, 3) := by decide +kernel
theorem dX5_init_30 : decode cX5_init 30 = .ok (.aload_n 0, 1) := by decide +kernel
theorem dX5_init_31 : decode cX5_init 31 = .ok (.sipush 720, 3) := by decide +kernel
theorem dX5_init_34 : decode cX5_init 34 = .ok (.newarray .int, 2) := by decide +kernel
theorem dX5_init_36 : decode cX5_init 36 = .ok (.putfield 21, 3) := by decide +kernel
theorem dX5_init_39 : decode cX5_init 39 = .ok (.aload_n 0, 1) := by decide +kernel
theorem dX5_init_40 : decode cX5_init 40 = .ok (.sipush 11520, 3) := by decide +kernel
theorem dX5_init_43 : decode cX5_init 43 = .ok (.newarray .int, 2) := by decide +kernel
theorem dX5_init_45 : decode cX5_init 45 = .ok (.putfield 24, 3) := by decide +kernel
theorem dX5_init_48 : decode cX5_init 48 = .ok (.aload_n 0, 1) := by decide +kernel
theorem dX5_init_49 : decode cX5_init 49 = .ok (.aload_n 1, 1) := by decide +kernel
theorem dX5_init_50 : decode cX5_init 50 = .ok (.putfield 27, 3) := by decide +kernel
theorem dX5_init_53 : decode cX5_init 53 = .ok (.return_, 1) := by decide +kernel
theorem dX5_clear_0 : decode cX5_clear 0 = .ok (.iconst 0, 1) := by decide +kernel
theorem dX5_clear_1 : decode cX5_clear 1 = .ok (.istore_n 1, 1) := by decide +kernel
theorem dX5_clear_2 : decode cX5_clear 2 = .ok (.iload_n 1, 1) := by decide +kernel
theorem dX5_clear_3 : decode cX5_clear 3 = .ok (.bipush 12, 2) := by decide +kernel
theorem dX5_clear_5 : decode cX5_clear 5 = .ok (.if_icmp .ge 16, 3) := by decide +kernel
theorem dX5_clear_8 : decode cX5_clear 8 = .ok (.aload_n 0, 1) := by decide +kernel
theorem dX5_clear_9 : decode cX5_clear 9 = .ok (.getfield 9, 3) := by decide +kernel
theorem dX5_clear_12 : decode cX5_clear 12 = .ok (.iload_n 1, 1) := by decide +kernel
theorem dX5_clear_13 : decode cX5_clear 13 = .ok (.iconst 0, 1) := by decide +kernel
theorem dX5_clear_14 : decode cX5_clear 14 = .ok (.iastore, 1) := by decide +kernel
theorem dX5_clear_15 : decode cX5_clear 15 = .ok (.iinc 1 1, 3) := by decide +kernel
theorem dX5_clear_18 : decode cX5_clear 18 = .ok (.goto (-16), 3) := by decide +kernel
theorem dX5_clear_21 : decode cX5_clear 21 = .ok (.return_, 1) := by decide +kernel
theorem dX5_copyFrom_0 : decode cX5_copyFrom 0 = .ok (.iconst 0, 1) := by decide +kernel
theorem dX5_copyFrom_1 : decode cX5_copyFrom 1 = .ok (.istore_n 2, 1) := by decide +kernel
theorem dX5_copyFrom_2 : decode cX5_copyFrom 2 = .ok (.iload_n 2, 1) := by decide +kernel
theorem dX5_copyFrom_3 : decode cX5_copyFrom 3 = .ok (.bipush 12, 2) := by decide +kernel
theorem dX5_copyFrom_5 : decode cX5_copyFrom 5 = .ok (.if_icmp .ge 99, 3) := by decide +kernel
theorem dX5_copyFrom_8 : decode cX5_copyFrom 8 = .ok (.iload_n 2, 1) := by decide +kernel
theorem dX5_copyFrom_9 : decode cX5_copyFrom 9 = .ok (.bipush 60, 2) := by decide +kernel
theorem dX5_copyFrom_11 : decode cX5_copyFrom 11 = .ok (.imul, 1) := by decide +kernel
theorem dX5_copyFrom_12 : decode cX5_copyFrom 12 = .ok (.istore_n 3, 1) := by decide +kernel
theorem dX5_copyFrom_13 : decode cX5_copyFrom 13 = .ok (.aload_n 1, 1) := by decide +kernel
theorem dX5_copyFrom_14 : decode cX5_copyFrom 14 = .ok (.getfield 9, 3) := by decide +kernel
theorem dX5_copyFrom_17 : decode cX5_copyFrom 17 = .ok (.iload_n 2, 1) := by decide +kernel
theorem dX5_copyFrom_18 : decode cX5_copyFrom 18 = .ok (.iaload, 1) := by decide +kernel
theorem dX5_copyFrom_19 : decode cX5_copyFrom 19 = .ok (.istore 4, 2) := by decide +kernel
theorem dX5_copyFrom_21 : decode cX5_copyFrom 21 = .ok (.aload_n 0, 1) := by decide +kernel
theorem dX5_copyFrom_22 : decode cX5_copyFrom 22 = .ok (.getfield 9, 3) := by decide +kernel
theorem dX5_copyFrom_25 : decode cX5_copyFrom 25 = .ok (.iload_n 2, 1) := by decide +kernel
theorem dX5_copyFrom_26 : decode cX5_copyFrom 26 = .ok (.iload 4, 2) := by decide +kernel
theorem dX5_copyFrom_28 : decode cX5_copyFrom 28 = .ok (.iastore, 1) := by decide +kernel
theorem dX5_copyFrom_29 : decode cX5_copyFrom 29 = .ok (.aload_n 1, 1) := by decide +kernel
theorem dX5_copyFrom_30 : decode cX5_copyFrom 30 = .ok (.getfield 15, 3) := by decide +kernel
theorem dX5_copyFrom_33 : decode cX5_copyFrom 33 = .ok (.iload_n 3, 1) := by decide +kernel
theorem dX5_copyFrom_34 : decode cX5_copyFrom 34 = .ok (.aload_n 0, 1) := by decide +kernel
theorem dX5_copyFrom_35 : decode cX5_copyFrom 35 = .ok (.getfield 15, 3) := by decide +kernel
theorem dX5_copyFrom_38 : decode cX5_copyFrom 38 = .ok (.iload_n 3, 1) := by decide +kernel
theorem dX5_copyFrom_39 : decode cX5_copyFrom 39 = .ok (.iload 4, 2) := by decide +kernel
theorem dX5_copyFrom_41 : decode cX5_copyFrom 41 = .ok (.invokestatic 31, 3) := by decide +kernel
theorem dX5_copyFrom_44 : decode cX5_copyFrom 44 = .ok (.aload_n 1, 1) := by decide +kernel
theorem dX5_copyFrom_45 : decode cX5_copyFrom 45 = .ok (.getfield 18, 3) := by decide +kernel
theorem dX5_copyFrom_48 : decode cX5_copyFrom 48 = .ok (.iload_n 3, 1) := by decide +kernel
theorem dX5_copyFrom_49 : decode cX5_copyFrom 49 = .ok (.aload_n 0, 1) := by decide +kernel
theorem dX5_copyFrom_50 : decode cX5_copyFrom 50 = .ok (.getfield 18, 3) := by decide +kernel
theorem dX5_copyFrom_53 : decode cX5_copyFrom 53 = .ok (.iload_n 3, 1) := by decide +kernel
theorem dX5_copyFrom_54 : decode cX5_copyFrom 54 = .ok (.iload 4, 2) := by decide +kernel
theorem dX5_copyFrom_56 : decode cX5_copyFrom 56 = .ok (.invokestatic 31, 3) := by decide +kernel
theorem dX5_copyFrom_59 : decode cX5_copyFrom 59 = .ok (.aload_n 1, 1) := by decide +kernel
theorem dX5_copyFrom_60 : decode cX5_copyFrom 60 = .ok (.getfield 21, 3) := by decide +kernel
theorem dX5_copyFrom_63 : decode cX5_copyFrom 63 = .ok (.iload_n 3, 1) := by decide +kernel
theorem dX5_copyFrom_64 : decode cX5_copyFrom 64 = .ok (.aload_n 0, 1) := by decide +kernel
theorem dX5_copyFrom_65 : decode cX5_copyFrom 65 = .ok (.getfield 21, 3) := by decide +kernel
theorem dX5_copyFrom_68 : decode cX5_copyFrom 68 = .ok (.iload_n 3, 1) := by decide +kernel
theorem dX5_copyFrom_69 : decode cX5_copyFrom 69 = .ok (.iload 4, 2) := by decide +kernel
theorem dX5_copyFrom_71 : decode cX5_copyFrom 71 = .ok (.invokestatic 31, 3) := by decide +kernel
theorem dX5_copyFrom_74 : decode cX5_copyFrom 74 = .ok (.aload_n 1, 1) := by decide +kernel
theorem dX5_copyFrom_75 : decode cX5_copyFrom 75 = .ok (.getfield 24, 3) := by decide +kernel
theorem dX5_copyFrom_78 : decode cX5_copyFrom 78 = .ok (.iload_n 3, 1) := by decide +kernel
theorem dX5_copyFrom_79 : decode cX5_copyFrom 79 = .ok (.bipush 16, 2) := by decide +kernel
theorem dX5_copyFrom_81 : decode cX5_copyFrom 81 = .ok (.imul, 1) := by decide +kernel
theorem dX5_copyFrom_82 : decode cX5_copyFrom 82 = .ok (.aload_n 0, 1) := by decide +kernel
theorem dX5_copyFrom_83 : decode cX5_copyFrom 83 = .ok (.getfield 24, 3) := by decide +kernel
theorem dX5_copyFrom_86 : decode cX5_copyFrom 86 = .ok (.iload_n 3, 1) := by decide +kernel
theorem dX5_copyFrom_87 : decode cX5_copyFrom 87 = .ok (.bipush 16, 2) := by decide +kernel
theorem dX5_copyFrom_89 : decode cX5_copyFrom 89 = .ok (.imul, 1) := by decide +kernel
theorem dX5_copyFrom_90 : decode cX5_copyFrom 90 = .ok (.iload 4, 2) := by decide +kernel
theorem dX5_copyFrom_92 : decode cX5_copyFrom 92 = .ok (.bipush 16, 2) := by decide +kernel
theorem dX5_copyFrom_94 : decode cX5_copyFrom 94 = .ok (.imul, 1) := by decide +kernel
theorem dX5_copyFrom_95 : decode cX5_copyFrom 95 = .ok (.invokestatic 31, 3) := by decide +kernel
theorem dX5_copyFrom_98 : decode cX5_copyFrom 98 = .ok (.iinc 2 1, 3) := by decide +kernel
theorem dX5_copyFrom_101 : decode cX5_copyFrom 101 = .ok (.goto (-99), 3) := by decide +kernel
theorem dX5_copyFrom_104 : decode cX5_copyFrom 104 = .ok (.return_, 1) := by decide +kernel
theorem dX5_total_0 : decode cX5_total 0 = .ok (.iconst 0, 1) := by decide +kernel
theorem dX5_total_1 : decode cX5_total 1 = .ok (.istore_n 1, 1) := by decide +kernel
theorem dX5_total_2 : decode cX5_total 2 = .ok (.iconst 0, 1) := by decide +kernel
theorem dX5_total_3 : decode cX5_total 3 = .ok (.istore_n 2, 1) := by decide +kernel
theorem dX5_total_4 : decode cX5_total 4 = .ok (.iload_n 2, 1) := by decide +kernel
theorem dX5_total_5 : decode cX5_total 5 = .ok (.bipush 12, 2) := by decide +kernel
theorem dX5_total_7 : decode cX5_total 7 = .ok (.if_icmp .ge 18, 3) := by decide +kernel
theorem dX5_total_10 : decode cX5_total 10 = .ok (.iload_n 1, 1) := by decide +kernel
theorem dX5_total_11 : decode cX5_total 11 = .ok (.aload_n 0, 1) := by decide +kernel
theorem dX5_total_12 : decode cX5_total 12 = .ok (.getfield 9, 3) := by decide +kernel
theorem dX5_total_15 : decode cX5_total 15 = .ok (.iload_n 2, 1) := by decide +kernel
theorem dX5_total_16 : decode cX5_total 16 = .ok (.iaload, 1) := by decide +kernel
theorem dX5_total_17 : decode cX5_total 17 = .ok (.iadd, 1) := by decide +kernel
theorem dX5_total_18 : decode cX5_total 18 = .ok (.istore_n 1, 1) := by decide +kernel
theorem dX5_total_19 : decode cX5_total 19 = .ok (.iinc 2 1, 3) := by decide +kernel
theorem dX5_total_22 : decode cX5_total 22 = .ok (.goto (-18), 3) := by decide +kernel
theorem dX5_total_25 : decode cX5_total 25 = .ok (.iload_n 1, 1) := by decide +kernel
theorem dX5_total_26 : decode cX5_total 26 = .ok (.ireturn, 1) := by decide +kernel
theorem dX5_firstOf_0 : decode cX5_firstOf 0 = .ok (.iload_n 1, 1) := by decide +kernel
theorem dX5_firstOf_1 : decode cX5_firstOf 1 = .ok (.ifCond .lt 9, 3) := by decide +kernel
theorem dX5_firstOf_4 : decode cX5_firstOf 4 = .ok (.iload_n 1, 1) := by decide +kernel
theorem dX5_firstOf_5 : decode cX5_firstOf 5 = .ok (.bipush 12, 2) := by decide +kernel
theorem dX5_firstOf_7 : decode cX5_firstOf 7 = .ok (.if_icmp .lt 7, 3) := by decide +kernel
theorem dX5_firstOf_10 : decode cX5_firstOf 10 = .ok (.iconst 0, 1) := by decide +kernel
theorem dX5_firstOf_11 : decode cX5_firstOf 11 = .ok (.goto 7, 3) := by decide +kernel
theorem dX5_firstOf_14 : decode cX5_firstOf 14 = .ok (.iload_n 1, 1) := by decide +kernel
theorem dX5_firstOf_15 : decode cX5_firstOf 15 = .ok (.bipush 60, 2) := by decide +kernel
theorem dX5_firstOf_17 : decode cX5_firstOf 17 = .ok (.imul, 1) := by decide +kernel
theorem dX5_firstOf_18 : decode cX5_firstOf 18 = .ok (.ireturn, 1) := by decide +kernel
theorem dX5_endOf_0 : decode cX5_endOf 0 = .ok (.iload_n 1, 1) := by decide +kernel
theorem dX5_endOf_1 : decode cX5_endOf 1 = .ok (.ifCond .lt 9, 3) := by decide +kernel
theorem dX5_endOf_4 : decode cX5_endOf 4 = .ok (.iload_n 1, 1) := by decide +kernel
theorem dX5_endOf_5 : decode cX5_endOf 5 = .ok (.bipush 12, 2) := by decide +kernel
theorem dX5_endOf_7 : decode cX5_endOf 7 = .ok (.if_icmp .lt 7, 3) := by decide +kernel
theorem dX5_endOf_10 : decode cX5_endOf 10 = .ok (.iconst 0, 1) := by decide +kernel
theorem dX5_endOf_11 : decode cX5_endOf 11 = .ok (.goto 14, 3) := by decide +kernel
theorem dX5_endOf_14 : decode cX5_endOf 14 = .ok (.iload_n 1, 1) := by decide +kernel
theorem dX5_endOf_15 : decode cX5_endOf 15 = .ok (.bipush 60, 2) := by decide +kernel
theorem dX5_endOf_17 : decode cX5_endOf 17 = .ok (.imul, 1) := by decide +kernel
theorem dX5_endOf_18 : decode cX5_endOf 18 = .ok (.aload_n 0, 1) := by decide +kernel
theorem dX5_endOf_19 : decode cX5_endOf 19 = .ok (.getfield 9, 3) := by decide +kernel
theorem dX5_endOf_22 : decode cX5_endOf 22 = .ok (.iload_n 1, 1) := by decide +kernel
theorem dX5_endOf_23 : decode cX5_endOf 23 = .ok (.iaload, 1) := by decide +kernel
theorem dX5_endOf_24 : decode cX5_endOf 24 = .ok (.iadd, 1) := by decide +kernel
theorem dX5_endOf_25 : decode cX5_endOf 25 = .ok (.ireturn, 1) := by decide +kernel
theorem dX5_isFull_0 : decode cX5_isFull 0 = .ok (.aload_n 0, 1) := by decide +kernel
theorem dX5_isFull_1 : decode cX5_isFull 1 = .ok (.getfield 9, 3) := by decide +kernel
theorem dX5_isFull_4 : decode cX5_isFull 4 = .ok (.iload_n 1, 1) := by decide +kernel
theorem dX5_isFull_5 : decode cX5_isFull 5 = .ok (.iaload, 1) := by decide +kernel
theorem dX5_isFull_6 : decode cX5_isFull 6 = .ok (.bipush 60, 2) := by decide +kernel
theorem dX5_isFull_8 : decode cX5_isFull 8 = .ok (.if_icmp .lt 7, 3) := by decide +kernel
theorem dX5_isFull_11 : decode cX5_isFull 11 = .ok (.iconst 1, 1) := by decide +kernel
theorem dX5_isFull_12 : decode cX5_isFull 12 = .ok (.goto 4, 3) := by decide +kernel
theorem dX5_isFull_15 : decode cX5_isFull 15 = .ok (.iconst 0, 1) := by decide +kernel
theorem dX5_isFull_16 : decode cX5_isFull 16 = .ok (.ireturn, 1) := by decide +kernel
theorem dX5_rowOf_0 : decode cX5_rowOf 0 = .ok (.iload_n 1, 1) := by decide +kernel
theorem dX5_rowOf_1 : decode cX5_rowOf 1 = .ok (.ifCond .lt 9, 3) := by decide +kernel
theorem dX5_rowOf_4 : decode cX5_rowOf 4 = .ok (.iload_n 1, 1) := by decide +kernel
theorem dX5_rowOf_5 : decode cX5_rowOf 5 = .ok (.bipush 12, 2) := by decide +kernel
theorem dX5_rowOf_7 : decode cX5_rowOf 7 = .ok (.if_icmp .lt 5, 3) := by decide +kernel
theorem dX5_rowOf_10 : decode cX5_rowOf 10 = .ok (.iconst (-1), 1) := by decide +kernel
theorem dX5_rowOf_11 : decode cX5_rowOf 11 = .ok (.ireturn, 1) := by decide +kernel
theorem dX5_rowOf_12 : decode cX5_rowOf 12 = .ok (.iload_n 1, 1) := by decide +kernel
theorem dX5_rowOf_13 : decode cX5_rowOf 13 = .ok (.bipush 60, 2) := by decide +kernel
theorem dX5_rowOf_15 : decode cX5_rowOf 15 = .ok (.imul, 1) := by decide +kernel
theorem dX5_rowOf_16 : decode cX5_rowOf 16 = .ok (.istore_n 3, 1) := by decide +kernel
theorem dX5_rowOf_17 : decode cX5_rowOf 17 = .ok (.iconst 0, 1) := by decide +kernel
theorem dX5_rowOf_18 : decode cX5_rowOf 18 = .ok (.istore 4, 2) := by decide +kernel
theorem dX5_rowOf_20 : decode cX5_rowOf 20 = .ok (.iload 4, 2) := by decide +kernel
theorem dX5_rowOf_22 : decode cX5_rowOf 22 = .ok (.aload_n 0, 1) := by decide +kernel
theorem dX5_rowOf_23 : decode cX5_rowOf 23 = .ok (.getfield 9, 3) := by decide +kernel
theorem dX5_rowOf_26 : decode cX5_rowOf 26 = .ok (.iload_n 1, 1) := by decide +kernel
theorem dX5_rowOf_27 : decode cX5_rowOf 27 = .ok (.iaload, 1) := by decide +kernel
theorem dX5_rowOf_28 : decode cX5_rowOf 28 = .ok (.if_icmp .ge 27, 3) := by decide +kernel
theorem dX5_rowOf_31 : decode cX5_rowOf 31 = .ok (.aload_n 0, 1) := by decide +kernel
theorem dX5_rowOf_32 : decode cX5_rowOf 32 = .ok (.getfield 15, 3) := by decide +kernel
theorem dX5_rowOf_35 : decode cX5_rowOf 35 = .ok (.iload_n 3, 1) := by decide +kernel
theorem dX5_rowOf_36 : decode cX5_rowOf 36 = .ok (.iload 4, 2) := by decide +kernel
theorem dX5_rowOf_38 : decode cX5_rowOf 38 = .ok (.iadd, 1) := by decide +kernel
theorem dX5_rowOf_39 : decode cX5_rowOf 39 = .ok (.iaload, 1) := by decide +kernel
theorem dX5_rowOf_40 : decode cX5_rowOf 40 = .ok (.iload_n 2, 1) := by decide +kernel
theorem dX5_rowOf_41 : decode cX5_rowOf 41 = .ok (.if_icmp .ne 8, 3) := by decide +kernel
theorem dX5_rowOf_44 : decode cX5_rowOf 44 = .ok (.iload_n 3, 1) := by decide +kernel
theorem dX5_rowOf_45 : decode cX5_rowOf 45 = .ok (.iload 4, 2) := by decide +kernel
theorem dX5_rowOf_47 : decode cX5_rowOf 47 = .ok (.iadd, 1) := by decide +kernel
theorem dX5_rowOf_48 : decode cX5_rowOf 48 = .ok (.ireturn, 1) := by decide +kernel
theorem dX5_rowOf_49 : decode cX5_rowOf 49 = .ok (.iinc 4 1, 3) := by decide +kernel
theorem dX5_rowOf_52 : decode cX5_rowOf 52 = .ok (.goto (-32), 3) := by decide +kernel
theorem dX5_rowOf_55 : decode cX5_rowOf 55 = .ok (.iconst (-1), 1) := by decide +kernel
theorem dX5_rowOf_56 : decode cX5_rowOf 56 = .ok (.ireturn, 1) := by decide +kernel
theorem dX5_get_0 : decode cX5_get 0 = .ok (.aload_n 0, 1) := by decide +kernel
theorem dX5_get_1 : decode cX5_get 1 = .ok (.getfield 24, 3) := by decide +kernel
theorem dX5_get_4 : decode cX5_get 4 = .ok (.iload_n 1, 1) := by decide +kernel
theorem dX5_get_5 : decode cX5_get 5 = .ok (.bipush 16, 2) := by decide +kernel
theorem dX5_get_7 : decode cX5_get 7 = .ok (.imul, 1) := by decide +kernel
theorem dX5_get_8 : decode cX5_get 8 = .ok (.iload_n 2, 1) := by decide +kernel
theorem dX5_get_9 : decode cX5_get 9 = .ok (.iadd, 1) := by decide +kernel
theorem dX5_get_10 : decode cX5_get 10 = .ok (.iaload, 1) := by decide +kernel
theorem dX5_get_11 : decode cX5_get 11 = .ok (.ireturn, 1) := by decide +kernel
theorem dX5_set_0 : decode cX5_set 0 = .ok (.aload_n 0, 1) := by decide +kernel
theorem dX5_set_1 : decode cX5_set 1 = .ok (.getfield 24, 3) := by decide +kernel
theorem dX5_set_4 : decode cX5_set 4 = .ok (.iload_n 1, 1) := by decide +kernel
theorem dX5_set_5 : decode cX5_set 5 = .ok (.bipush 16, 2) := by decide +kernel
theorem dX5_set_7 : decode cX5_set 7 = .ok (.imul, 1) := by decide +kernel
theorem dX5_set_8 : decode cX5_set 8 = .ok (.iload_n 2, 1) := by decide +kernel
theorem dX5_set_9 : decode cX5_set 9 = .ok (.iadd, 1) := by decide +kernel
theorem dX5_set_10 : decode cX5_set 10 = .ok (.iload_n 3, 1) := by decide +kernel
theorem dX5_set_11 : decode cX5_set 11 = .ok (.iastore, 1) := by decide +kernel
theorem dX5_set_12 : decode cX5_set 12 = .ok (.return_, 1) := by decide +kernel
theorem dX5_copyValues_0 : decode cX5_copyValues 0 = .ok (.aload_n 0, 1) := by decide +kernel
theorem dX5_copyValues_1 : decode cX5_copyValues 1 = .ok (.getfield 24, 3) := by decide +kernel
theorem dX5_copyValues_4 : decode cX5_copyValues 4 = .ok (.iload_n 1, 1) := by decide +kernel
theorem dX5_copyValues_5 : decode cX5_copyValues 5 = .ok (.bipush 16, 2) := by decide +kernel
theorem dX5_copyValues_7 : decode cX5_copyValues 7 = .ok (.imul, 1) := by decide +kernel
theorem dX5_copyValues_8 : decode cX5_copyValues 8 = .ok (.aload_n 2, 1) := by decide +kernel
theorem dX5_copyValues_9 : decode cX5_copyValues 9 = .ok (.iconst 0, 1) := by decide +kernel
theorem dX5_copyValues_10 : decode cX5_copyValues 10 = .ok (.bipush 16, 2) := by decide +kernel
theorem dX5_copyValues_12 : decode cX5_copyValues 12 = .ok (.invokestatic 31, 3) := by decide +kernel
theorem dX5_copyValues_15 : decode cX5_copyValues 15 = .ok (.return_, 1) := by decide +kernel
theorem dX5_rowLedTo_0 : decode cX5_rowLedTo 0 = .ok (.aload_n 0, 1) := by decide +kernel
theorem dX5_rowLedTo_1 : decode cX5_rowLedTo 1 = .ok (.getfield 27, 3) := by decide +kernel
theorem dX5_rowLedTo_4 : decode cX5_rowLedTo 4 = .ok (.aload_n 0, 1) := by decide +kernel
theorem dX5_rowLedTo_5 : decode cX5_rowLedTo 5 = .ok (.getfield 18, 3) := by decide +kernel
theorem dX5_rowLedTo_8 : decode cX5_rowLedTo 8 = .ok (.iload_n 1, 1) := by decide +kernel
theorem dX5_rowLedTo_9 : decode cX5_rowLedTo 9 = .ok (.iaload, 1) := by decide +kernel
theorem dX5_rowLedTo_10 : decode cX5_rowLedTo 10 = .ok (.iload_n 2, 1) := by decide +kernel
theorem dX5_rowLedTo_11 : decode cX5_rowLedTo 11 = .ok (.invokevirtual 37, 3) := by decide +kernel
theorem dX5_rowLedTo_14 : decode cX5_rowLedTo 14 = .ok (.astore_n 3, 1) := by decide +kernel
theorem dX5_rowLedTo_15 : decode cX5_rowLedTo 15 = .ok (.aload_n 3, 1) := by decide +kernel
theorem dX5_rowLedTo_16 : decode cX5_rowLedTo 16 = .ok (.ifnull 12, 3) := by decide +kernel
theorem dX5_rowLedTo_19 : decode cX5_rowLedTo 19 = .ok (.aload_n 0, 1) := by decide +kernel
theorem dX5_rowLedTo_20 : decode cX5_rowLedTo 20 = .ok (.iload_n 1, 1) := by decide +kernel
theorem dX5_rowLedTo_21 : decode cX5_rowLedTo 21 = .ok (.iload_n 2, 1) := by decide +kernel
theorem dX5_rowLedTo_22 : decode cX5_rowLedTo 22 = .ok (.invokevirtual 43, 3) := by decide +kernel
theorem dX5_rowLedTo_25 : decode cX5_rowLedTo 25 = .ok (.ifCond .ne 5, 3) := by decide +kernel
theorem dX5_rowLedTo_28 : decode cX5_rowLedTo 28 = .ok (.iconst (-1), 1) := by decide +kernel
theorem dX5_rowLedTo_29 : decode cX5_rowLedTo 29 = .ok (.ireturn, 1) := by decide +kernel
theorem dX5_rowLedTo_30 : decode cX5_rowLedTo 30 = .ok (.aload_n 0, 1) := by decide +kernel
theorem dX5_rowLedTo_31 : decode cX5_rowLedTo 31 = .ok (.aload_n 0, 1) := by decide +kernel
theorem dX5_rowLedTo_32 : decode cX5_rowLedTo 32 = .ok (.getfield 27, 3) := by decide +kernel
theorem dX5_rowLedTo_35 : decode cX5_rowLedTo 35 = .ok (.aload_n 3, 1) := by decide +kernel
theorem dX5_rowLedTo_36 : decode cX5_rowLedTo 36 = .ok (.getfield 47, 3) := by decide +kernel
theorem dX5_rowLedTo_39 : decode cX5_rowLedTo 39 = .ok (.invokevirtual 53, 3) := by decide +kernel
theorem dX5_rowLedTo_42 : decode cX5_rowLedTo 42 = .ok (.aload_n 0, 1) := by decide +kernel
theorem dX5_rowLedTo_43 : decode cX5_rowLedTo 43 = .ok (.iload_n 1, 1) := by decide +kernel
theorem dX5_rowLedTo_44 : decode cX5_rowLedTo 44 = .ok (.iload_n 2, 1) := by decide +kernel
theorem dX5_rowLedTo_45 : decode cX5_rowLedTo 45 = .ok (.invokevirtual 43, 3) := by decide +kernel
theorem dX5_rowLedTo_48 : decode cX5_rowLedTo 48 = .ok (.invokevirtual 57, 3) := by decide +kernel
theorem dX5_rowLedTo_51 : decode cX5_rowLedTo 51 = .ok (.ireturn, 1) := by decide +kernel
theorem dX5_add_0 : decode cX5_add 0 = .ok (.aload_n 0, 1) := by decide +kernel
theorem dX5_add_1 : decode cX5_add 1 = .ok (.iload_n 1, 1) := by decide +kernel
theorem dX5_add_2 : decode cX5_add 2 = .ok (.invokevirtual 60, 3) := by decide +kernel
theorem dX5_add_5 : decode cX5_add 5 = .ok (.istore 4, 2) := by decide +kernel
theorem dX5_add_7 : decode cX5_add 7 = .ok (.iload 4, 2) := by decide +kernel
theorem dX5_add_9 : decode cX5_add 9 = .ok (.aload_n 0, 1) := by decide +kernel
theorem dX5_add_10 : decode cX5_add 10 = .ok (.iload_n 1, 1) := by decide +kernel
theorem dX5_add_11 : decode cX5_add 11 = .ok (.invokevirtual 63, 3) := by decide +kernel
theorem dX5_add_14 : decode cX5_add 14 = .ok (.if_icmp .le 22, 3) := by decide +kernel
theorem dX5_add_17 : decode cX5_add 17 = .ok (.aload_n 0, 1) := by decide +kernel
theorem dX5_add_18 : decode cX5_add 18 = .ok (.getfield 15, 3) := by decide +kernel
theorem dX5_add_21 : decode cX5_add 21 = .ok (.iload 4, 2) := by decide +kernel
theorem dX5_add_23 : decode cX5_add 23 = .ok (.iconst 1, 1) := by decide +kernel
theorem dX5_add_24 : decode cX5_add 24 = .ok (.isub, 1) := by decide +kernel
theorem dX5_add_25 : decode cX5_add 25 = .ok (.iaload, 1) := by decide +kernel
theorem dX5_add_26 : decode cX5_add 26 = .ok (.iload_n 2, 1) := by decide +kernel
theorem dX5_add_27 : decode cX5_add 27 = .ok (.if_icmp .le 9, 3) := by decide +kernel
theorem dX5_add_30 : decode cX5_add 30 = .ok (.iinc 4 (-1), 3) := by decide +kernel
theorem dX5_add_33 : decode cX5_add 33 = .ok (.goto (-26), 3) := by decide +kernel
theorem dX5_add_36 : decode cX5_add 36 = .ok (.aload_n 0, 1) := by decide +kernel
theorem dX5_add_37 : decode cX5_add 37 = .ok (.iload 4, 2) := by decide +kernel
theorem dX5_add_39 : decode cX5_add 39 = .ok (.iload 4, 2) := by decide +kernel
theorem dX5_add_41 : decode cX5_add 41 = .ok (.iconst 1, 1) := by decide +kernel
theorem dX5_add_42 : decode cX5_add 42 = .ok (.iadd, 1) := by decide +kernel
theorem dX5_add_43 : decode cX5_add 43 = .ok (.aload_n 0, 1) := by decide +kernel
theorem dX5_add_44 : decode cX5_add 44 = .ok (.iload_n 1, 1) := by decide +kernel
theorem dX5_add_45 : decode cX5_add 45 = .ok (.invokevirtual 60, 3) := by decide +kernel
theorem dX5_add_48 : decode cX5_add 48 = .ok (.iload 4, 2) := by decide +kernel
theorem dX5_add_50 : decode cX5_add 50 = .ok (.isub, 1) := by decide +kernel
theorem dX5_add_51 : decode cX5_add 51 = .ok (.invokevirtual 66, 3) := by decide +kernel
theorem dX5_add_54 : decode cX5_add 54 = .ok (.aload_n 0, 1) := by decide +kernel
theorem dX5_add_55 : decode cX5_add 55 = .ok (.getfield 9, 3) := by decide +kernel
theorem dX5_add_58 : decode cX5_add 58 = .ok (.iload_n 1, 1) := by decide +kernel
theorem dX5_add_59 : decode cX5_add 59 = .ok (.dup2, 1) := by decide +kernel
theorem dX5_add_60 : decode cX5_add 60 = .ok (.iaload, 1) := by decide +kernel
theorem dX5_add_61 : decode cX5_add 61 = .ok (.iconst 1, 1) := by decide +kernel
theorem dX5_add_62 : decode cX5_add 62 = .ok (.iadd, 1) := by decide +kernel
theorem dX5_add_63 : decode cX5_add 63 = .ok (.iastore, 1) := by decide +kernel
theorem dX5_add_64 : decode cX5_add 64 = .ok (.aload_n 0, 1) := by decide +kernel
theorem dX5_add_65 : decode cX5_add 65 = .ok (.getfield 15, 3) := by decide +kernel
theorem dX5_add_68 : decode cX5_add 68 = .ok (.iload 4, 2) := by decide +kernel
theorem dX5_add_70 : decode cX5_add 70 = .ok (.iload_n 2, 1) := by decide +kernel
theorem dX5_add_71 : decode cX5_add 71 = .ok (.iastore, 1) := by decide +kernel
theorem dX5_add_72 : decode cX5_add 72 = .ok (.aload_n 0, 1) := by decide +kernel
theorem dX5_add_73 : decode cX5_add 73 = .ok (.getfield 18, 3) := by decide +kernel
theorem dX5_add_76 : decode cX5_add 76 = .ok (.iload 4, 2) := by decide +kernel
theorem dX5_add_78 : decode cX5_add 78 = .ok (.iload_n 3, 1) := by decide +kernel
theorem dX5_add_79 : decode cX5_add 79 = .ok (.iastore, 1) := by decide +kernel
theorem dX5_add_80 : decode cX5_add 80 = .ok (.aload_n 0, 1) := by decide +kernel
theorem dX5_add_81 : decode cX5_add 81 = .ok (.getfield 21, 3) := by decide +kernel
theorem dX5_add_84 : decode cX5_add 84 = .ok (.iload 4, 2) := by decide +kernel
theorem dX5_add_86 : decode cX5_add 86 = .ok (.iconst 1, 1) := by decide +kernel
theorem dX5_add_87 : decode cX5_add 87 = .ok (.iastore, 1) := by decide +kernel
theorem dX5_add_88 : decode cX5_add 88 = .ok (.iload 4, 2) := by decide +kernel
theorem dX5_add_90 : decode cX5_add 90 = .ok (.ireturn, 1) := by decide +kernel
theorem dX5_remove_0 : decode cX5_remove 0 = .ok (.aload_n 0, 1) := by decide +kernel
theorem dX5_remove_1 : decode cX5_remove 1 = .ok (.iload_n 2, 1) := by decide +kernel
theorem dX5_remove_2 : decode cX5_remove 2 = .ok (.iconst 1, 1) := by decide +kernel
theorem dX5_remove_3 : decode cX5_remove 3 = .ok (.iadd, 1) := by decide +kernel
theorem dX5_remove_4 : decode cX5_remove 4 = .ok (.iload_n 2, 1) := by decide +kernel
theorem dX5_remove_5 : decode cX5_remove 5 = .ok (.aload_n 0, 1) := by decide +kernel
theorem dX5_remove_6 : decode cX5_remove 6 = .ok (.iload_n 1, 1) := by decide +kernel
theorem dX5_remove_7 : decode cX5_remove 7 = .ok (.invokevirtual 60, 3) := by decide +kernel
theorem dX5_remove_10 : decode cX5_remove 10 = .ok (.iload_n 2, 1) := by decide +kernel
theorem dX5_remove_11 : decode cX5_remove 11 = .ok (.isub, 1) := by decide +kernel
theorem dX5_remove_12 : decode cX5_remove 12 = .ok (.iconst 1, 1) := by decide +kernel
theorem dX5_remove_13 : decode cX5_remove 13 = .ok (.isub, 1) := by decide +kernel
theorem dX5_remove_14 : decode cX5_remove 14 = .ok (.invokevirtual 66, 3) := by decide +kernel
theorem dX5_remove_17 : decode cX5_remove 17 = .ok (.aload_n 0, 1) := by decide +kernel
theorem dX5_remove_18 : decode cX5_remove 18 = .ok (.getfield 9, 3) := by decide +kernel
theorem dX5_remove_21 : decode cX5_remove 21 = .ok (.iload_n 1, 1) := by decide +kernel
theorem dX5_remove_22 : decode cX5_remove 22 = .ok (.dup2, 1) := by decide +kernel
theorem dX5_remove_23 : decode cX5_remove 23 = .ok (.iaload, 1) := by decide +kernel
theorem dX5_remove_24 : decode cX5_remove 24 = .ok (.iconst 1, 1) := by decide +kernel
theorem dX5_remove_25 : decode cX5_remove 25 = .ok (.isub, 1) := by decide +kernel
theorem dX5_remove_26 : decode cX5_remove 26 = .ok (.iastore, 1) := by decide +kernel
theorem dX5_remove_27 : decode cX5_remove 27 = .ok (.return_, 1) := by decide +kernel
theorem dX5_move_0 : decode cX5_move 0 = .ok (.aload_n 0, 1) := by decide +kernel
theorem dX5_move_1 : decode cX5_move 1 = .ok (.getfield 15, 3) := by decide +kernel
theorem dX5_move_4 : decode cX5_move 4 = .ok (.iload_n 1, 1) := by decide +kernel
theorem dX5_move_5 : decode cX5_move 5 = .ok (.aload_n 0, 1) := by decide +kernel
theorem dX5_move_6 : decode cX5_move 6 = .ok (.getfield 15, 3) := by decide +kernel
theorem dX5_move_9 : decode cX5_move 9 = .ok (.iload_n 2, 1) := by decide +kernel
theorem dX5_move_10 : decode cX5_move 10 = .ok (.iload_n 3, 1) := by decide +kernel
theorem dX5_move_11 : decode cX5_move 11 = .ok (.invokestatic 31, 3) := by decide +kernel
theorem dX5_move_14 : decode cX5_move 14 = .ok (.aload_n 0, 1) := by decide +kernel
theorem dX5_move_15 : decode cX5_move 15 = .ok (.getfield 18, 3) := by decide +kernel
theorem dX5_move_18 : decode cX5_move 18 = .ok (.iload_n 1, 1) := by decide +kernel
theorem dX5_move_19 : decode cX5_move 19 = .ok (.aload_n 0, 1) := by decide +kernel
theorem dX5_move_20 : decode cX5_move 20 = .ok (.getfield 18, 3) := by decide +kernel
theorem dX5_move_23 : decode cX5_move 23 = .ok (.iload_n 2, 1) := by decide +kernel
theorem dX5_move_24 : decode cX5_move 24 = .ok (.iload_n 3, 1) := by decide +kernel
theorem dX5_move_25 : decode cX5_move 25 = .ok (.invokestatic 31, 3) := by decide +kernel
theorem dX5_move_28 : decode cX5_move 28 = .ok (.aload_n 0, 1) := by decide +kernel
theorem dX5_move_29 : decode cX5_move 29 = .ok (.getfield 21, 3) := by decide +kernel
theorem dX5_move_32 : decode cX5_move 32 = .ok (.iload_n 1, 1) := by decide +kernel
theorem dX5_move_33 : decode cX5_move 33 = .ok (.aload_n 0, 1) := by decide +kernel
theorem dX5_move_34 : decode cX5_move 34 = .ok (.getfield 21, 3) := by decide +kernel
theorem dX5_move_37 : decode cX5_move 37 = .ok (.iload_n 2, 1) := by decide +kernel
theorem dX5_move_38 : decode cX5_move 38 = .ok (.iload_n 3, 1) := by decide +kernel
theorem dX5_move_39 : decode cX5_move 39 = .ok (.invokestatic 31, 3) := by decide +kernel
theorem dX5_move_42 : decode cX5_move 42 = .ok (.aload_n 0, 1) := by decide +kernel
theorem dX5_move_43 : decode cX5_move 43 = .ok (.getfield 24, 3) := by decide +kernel
theorem dX5_move_46 : decode cX5_move 46 = .ok (.iload_n 1, 1) := by decide +kernel
theorem dX5_move_47 : decode cX5_move 47 = .ok (.bipush 16, 2) := by decide +kernel
theorem dX5_move_49 : decode cX5_move 49 = .ok (.imul, 1) := by decide +kernel
theorem dX5_move_50 : decode cX5_move 50 = .ok (.aload_n 0, 1) := by decide +kernel
theorem dX5_move_51 : decode cX5_move 51 = .ok (.getfield 24, 3) := by decide +kernel
theorem dX5_move_54 : decode cX5_move 54 = .ok (.iload_n 2, 1) := by decide +kernel
theorem dX5_move_55 : decode cX5_move 55 = .ok (.bipush 16, 2) := by decide +kernel
theorem dX5_move_57 : decode cX5_move 57 = .ok (.imul, 1) := by decide +kernel
theorem dX5_move_58 : decode cX5_move 58 = .ok (.iload_n 3, 1) := by decide +kernel
theorem dX5_move_59 : decode cX5_move 59 = .ok (.bipush 16, 2) := by decide +kernel
theorem dX5_move_61 : decode cX5_move 61 = .ok (.imul, 1) := by decide +kernel
theorem dX5_move_62 : decode cX5_move 62 = .ok (.invokestatic 31, 3) := by decide +kernel
theorem dX5_move_65 : decode cX5_move 65 = .ok (.return_, 1) := by decide +kernel
theorem dX5_brokenRule_0 : decode cX5_brokenRule 0 = .ok (.aload_n 0, 1) := by decide +kernel
theorem dX5_brokenRule_1 : decode cX5_brokenRule 1 = .ok (.getfield 27, 3) := by decide +kernel
theorem dX5_brokenRule_4 : decode cX5_brokenRule 4 = .ok (.iload_n 1, 1) := by decide +kernel
theorem dX5_brokenRule_5 : decode cX5_brokenRule 5 = .ok (.iload_n 3, 1) := by decide +kernel
theorem dX5_brokenRule_6 : decode cX5_brokenRule 6 = .ok (.invokevirtual 37, 3) := by decide +kernel
theorem dX5_brokenRule_9 : decode cX5_brokenRule 9 = .ok (.astore 5, 2) := by decide +kernel
theorem dX5_brokenRule_11 : decode cX5_brokenRule 11 = .ok (.aload 5, 2) := by decide +kernel
theorem dX5_brokenRule_13 : decode cX5_brokenRule 13 = .ok (.ifnull 12, 3) := by decide +kernel
theorem dX5_brokenRule_16 : decode cX5_brokenRule 16 = .ok (.aload 5, 2) := by decide +kernel
theorem dX5_brokenRule_18 : decode cX5_brokenRule 18 = .ok (.getfield 70, 3) := by decide +kernel
theorem dX5_brokenRule_21 : decode cX5_brokenRule 21 = .ok (.iconst 5, 1) := by decide +kernel
theorem dX5_brokenRule_22 : decode cX5_brokenRule 22 = .ok (.if_icmp .ne 5, 3) := by decide +kernel
theorem dX5_brokenRule_25 : decode cX5_brokenRule 25 = .ok (.iconst (-1), 1) := by decide +kernel
theorem dX5_brokenRule_26 : decode cX5_brokenRule 26 = .ok (.ireturn, 1) := by decide +kernel
theorem dX5_brokenRule_27 : decode cX5_brokenRule 27 = .ok (.aload 5, 2) := by decide +kernel
theorem dX5_brokenRule_29 : decode cX5_brokenRule 29 = .ok (.iconst 2, 1) := by decide +kernel
theorem dX5_brokenRule_30 : decode cX5_brokenRule 30 = .ok (.invokevirtual 73, 3) := by decide +kernel
theorem dX5_brokenRule_33 : decode cX5_brokenRule 33 = .ok (.ifCond .eq 10, 3) := by decide +kernel
theorem dX5_brokenRule_36 : decode cX5_brokenRule 36 = .ok (.iload 4, 2) := by decide +kernel
theorem dX5_brokenRule_38 : decode cX5_brokenRule 38 = .ok (.ifCond .ne 5, 3) := by decide +kernel
theorem dX5_brokenRule_41 : decode cX5_brokenRule 41 = .ok (.iconst 0, 1) := by decide +kernel
theorem dX5_brokenRule_42 : decode cX5_brokenRule 42 = .ok (.ireturn, 1) := by decide +kernel
theorem dX5_brokenRule_43 : decode cX5_brokenRule 43 = .ok (.aload 5, 2) := by decide +kernel
theorem dX5_brokenRule_45 : decode cX5_brokenRule 45 = .ok (.iconst 1, 1) := by decide +kernel
theorem dX5_brokenRule_46 : decode cX5_brokenRule 46 = .ok (.invokevirtual 73, 3) := by decide +kernel
theorem dX5_brokenRule_49 : decode cX5_brokenRule 49 = .ok (.ifCond .eq 18, 3) := by decide +kernel
theorem dX5_brokenRule_52 : decode cX5_brokenRule 52 = .ok (.aload_n 0, 1) := by decide +kernel
theorem dX5_brokenRule_53 : decode cX5_brokenRule 53 = .ok (.aload 5, 2) := by decide +kernel
theorem dX5_brokenRule_55 : decode cX5_brokenRule 55 = .ok (.iload_n 2, 1) := by decide +kernel
theorem dX5_brokenRule_56 : decode cX5_brokenRule 56 = .ok (.iload_n 3, 1) := by decide +kernel
theorem dX5_brokenRule_57 : decode cX5_brokenRule 57 = .ok (.iload 4, 2) := by decide +kernel
theorem dX5_brokenRule_59 : decode cX5_brokenRule 59 = .ok (.invokevirtual 77, 3) := by decide +kernel
theorem dX5_brokenRule_62 : decode cX5_brokenRule 62 = .ok (.ifCond .eq 5, 3) := by decide +kernel
theorem dX5_brokenRule_65 : decode cX5_brokenRule 65 = .ok (.iconst 1, 1) := by decide +kernel
theorem dX5_brokenRule_66 : decode cX5_brokenRule 66 = .ok (.ireturn, 1) := by decide +kernel
theorem dX5_brokenRule_67 : decode cX5_brokenRule 67 = .ok (.aload 5, 2) := by decide +kernel
theorem dX5_brokenRule_69 : decode cX5_brokenRule 69 = .ok (.getfield 70, 3) := by decide +kernel
theorem dX5_brokenRule_72 : decode cX5_brokenRule 72 = .ok (.iconst 4, 1) := by decide +kernel
theorem dX5_brokenRule_73 : decode cX5_brokenRule 73 = .ok (.if_icmp .ne 23, 3) := by decide +kernel
theorem dX5_brokenRule_76 : decode cX5_brokenRule 76 = .ok (.iload 4, 2) := by decide +kernel
theorem dX5_brokenRule_78 : decode cX5_brokenRule 78 = .ok (.ifCond .eq 18, 3) := by decide +kernel
theorem dX5_brokenRule_81 : decode cX5_brokenRule 81 = .ok (.aload_n 0, 1) := by decide +kernel
theorem dX5_brokenRule_82 : decode cX5_brokenRule 82 = .ok (.aload 5, 2) := by decide +kernel
theorem dX5_brokenRule_84 : decode cX5_brokenRule 84 = .ok (.iload_n 1, 1) := by decide +kernel
theorem dX5_brokenRule_85 : decode cX5_brokenRule 85 = .ok (.iload_n 2, 1) := by decide +kernel
theorem dX5_brokenRule_86 : decode cX5_brokenRule 86 = .ok (.iload 4, 2) := by decide +kernel
theorem dX5_brokenRule_88 : decode cX5_brokenRule 88 = .ok (.invokevirtual 81, 3) := by decide +kernel
theorem dX5_brokenRule_91 : decode cX5_brokenRule 91 = .ok (.ifCond .ne 5, 3) := by decide +kernel
theorem dX5_brokenRule_94 : decode cX5_brokenRule 94 = .ok (.iconst 2, 1) := by decide +kernel
theorem dX5_brokenRule_95 : decode cX5_brokenRule 95 = .ok (.ireturn, 1) := by decide +kernel
theorem dX5_brokenRule_96 : decode cX5_brokenRule 96 = .ok (.iconst (-1), 1) := by decide +kernel
theorem dX5_brokenRule_97 : decode cX5_brokenRule 97 = .ok (.ireturn, 1) := by decide +kernel
theorem dX5_isTaken_0 : decode cX5_isTaken 0 = .ok (.aload_n 0, 1) := by decide +kernel
theorem dX5_isTaken_1 : decode cX5_isTaken 1 = .ok (.getfield 27, 3) := by decide +kernel
theorem dX5_isTaken_4 : decode cX5_isTaken 4 = .ok (.aload_n 1, 1) := by decide +kernel
theorem dX5_isTaken_5 : decode cX5_isTaken 5 = .ok (.getfield 84, 3) := by decide +kernel
theorem dX5_isTaken_8 : decode cX5_isTaken 8 = .ok (.invokevirtual 53, 3) := by decide +kernel
theorem dX5_isTaken_11 : decode cX5_isTaken 11 = .ok (.istore 5, 2) := by decide +kernel
theorem dX5_isTaken_13 : decode cX5_isTaken 13 = .ok (.aload_n 0, 1) := by decide +kernel
theorem dX5_isTaken_14 : decode cX5_isTaken 14 = .ok (.iload 5, 2) := by decide +kernel
theorem dX5_isTaken_16 : decode cX5_isTaken 16 = .ok (.invokevirtual 63, 3) := by decide +kernel
theorem dX5_isTaken_19 : decode cX5_isTaken 19 = .ok (.istore 6, 2) := by decide +kernel
theorem dX5_isTaken_21 : decode cX5_isTaken 21 = .ok (.iload 6, 2) := by decide +kernel
theorem dX5_isTaken_23 : decode cX5_isTaken 23 = .ok (.aload_n 0, 1) := by decide +kernel
theorem dX5_isTaken_24 : decode cX5_isTaken 24 = .ok (.iload 5, 2) := by decide +kernel
theorem dX5_isTaken_26 : decode cX5_isTaken 26 = .ok (.invokevirtual 60, 3) := by decide +kernel
theorem dX5_isTaken_29 : decode cX5_isTaken 29 = .ok (.if_icmp .ge 55, 3) := by decide +kernel
theorem dX5_isTaken_32 : decode cX5_isTaken 32 = .ok (.aload_n 0, 1) := by decide +kernel
theorem dX5_isTaken_33 : decode cX5_isTaken 33 = .ok (.getfield 15, 3) := by decide +kernel
theorem dX5_isTaken_36 : decode cX5_isTaken 36 = .ok (.iload 6, 2) := by decide +kernel
theorem dX5_isTaken_38 : decode cX5_isTaken 38 = .ok (.iaload, 1) := by decide +kernel
theorem dX5_isTaken_39 : decode cX5_isTaken 39 = .ok (.iload_n 2, 1) := by decide +kernel
theorem dX5_isTaken_40 : decode cX5_isTaken 40 = .ok (.if_icmp .eq 38, 3) := by decide +kernel
theorem dX5_isTaken_43 : decode cX5_isTaken 43 = .ok (.aload_n 0, 1) := by decide +kernel
theorem dX5_isTaken_44 : decode cX5_isTaken 44 = .ok (.getfield 27, 3) := by decide +kernel
theorem dX5_isTaken_47 : decode cX5_isTaken 47 = .ok (.aload_n 0, 1) := by decide +kernel
theorem dX5_isTaken_48 : decode cX5_isTaken 48 = .ok (.getfield 18, 3) := by decide +kernel
theorem dX5_isTaken_51 : decode cX5_isTaken 51 = .ok (.iload 6, 2) := by decide +kernel
theorem dX5_isTaken_53 : decode cX5_isTaken 53 = .ok (.iaload, 1) := by decide +kernel
theorem dX5_isTaken_54 : decode cX5_isTaken 54 = .ok (.aload_n 1, 1) := by decide +kernel
theorem dX5_isTaken_55 : decode cX5_isTaken 55 = .ok (.getfield 84, 3) := by decide +kernel
theorem dX5_isTaken_58 : decode cX5_isTaken 58 = .ok (.invokevirtual 87, 3) := by decide +kernel
theorem dX5_isTaken_61 : decode cX5_isTaken 61 = .ok (.ifCond .eq 17, 3) := by decide +kernel
theorem dX5_isTaken_64 : decode cX5_isTaken 64 = .ok (.aload_n 0, 1) := by decide +kernel
theorem dX5_isTaken_65 : decode cX5_isTaken 65 = .ok (.iload 6, 2) := by decide +kernel
theorem dX5_isTaken_67 : decode cX5_isTaken 67 = .ok (.iload_n 3, 1) := by decide +kernel
theorem dX5_isTaken_68 : decode cX5_isTaken 68 = .ok (.invokevirtual 43, 3) := by decide +kernel
theorem dX5_isTaken_71 : decode cX5_isTaken 71 = .ok (.iload 4, 2) := by decide +kernel
theorem dX5_isTaken_73 : decode cX5_isTaken 73 = .ok (.if_icmp .ne 5, 3) := by decide +kernel
theorem dX5_isTaken_76 : decode cX5_isTaken 76 = .ok (.iconst 1, 1) := by decide +kernel
theorem dX5_isTaken_77 : decode cX5_isTaken 77 = .ok (.ireturn, 1) := by decide +kernel
theorem dX5_isTaken_78 : decode cX5_isTaken 78 = .ok (.iinc 6 1, 3) := by decide +kernel
theorem dX5_isTaken_81 : decode cX5_isTaken 81 = .ok (.goto (-60), 3) := by decide +kernel
theorem dX5_isTaken_84 : decode cX5_isTaken 84 = .ok (.iconst 0, 1) := by decide +kernel
theorem dX5_isTaken_85 : decode cX5_isTaken 85 = .ok (.ireturn, 1) := by decide +kernel
theorem dX5_leads_0 : decode cX5_leads 0 = .ok (.aload_n 0, 1) := by decide +kernel
theorem dX5_leads_1 : decode cX5_leads 1 = .ok (.getfield 27, 3) := by decide +kernel
theorem dX5_leads_4 : decode cX5_leads 4 = .ok (.aload_n 1, 1) := by decide +kernel
theorem dX5_leads_5 : decode cX5_leads 5 = .ok (.getfield 47, 3) := by decide +kernel
theorem dX5_leads_8 : decode cX5_leads 8 = .ok (.invokevirtual 53, 3) := by decide +kernel
theorem dX5_leads_11 : decode cX5_leads 11 = .ok (.istore 5, 2) := by decide +kernel
theorem dX5_leads_13 : decode cX5_leads 13 = .ok (.iload 4, 2) := by decide +kernel
theorem dX5_leads_15 : decode cX5_leads 15 = .ok (.iload_n 3, 1) := by decide +kernel
theorem dX5_leads_16 : decode cX5_leads 16 = .ok (.if_icmp .ne 29, 3) := by decide +kernel
theorem dX5_leads_19 : decode cX5_leads 19 = .ok (.iload 5, 2) := by decide +kernel
theorem dX5_leads_21 : decode cX5_leads 21 = .ok (.aload_n 0, 1) := by decide +kernel
theorem dX5_leads_22 : decode cX5_leads 22 = .ok (.getfield 27, 3) := by decide +kernel
theorem dX5_leads_25 : decode cX5_leads 25 = .ok (.iload_n 2, 1) := by decide +kernel
theorem dX5_leads_26 : decode cX5_leads 26 = .ok (.invokevirtual 53, 3) := by decide +kernel
theorem dX5_leads_29 : decode cX5_leads 29 = .ok (.if_icmp .ne 16, 3) := by decide +kernel
theorem dX5_leads_32 : decode cX5_leads 32 = .ok (.aload_n 0, 1) := by decide +kernel
theorem dX5_leads_33 : decode cX5_leads 33 = .ok (.getfield 27, 3) := by decide +kernel
theorem dX5_leads_36 : decode cX5_leads 36 = .ok (.iload_n 2, 1) := by decide +kernel
theorem dX5_leads_37 : decode cX5_leads 37 = .ok (.aload_n 1, 1) := by decide +kernel
theorem dX5_leads_38 : decode cX5_leads 38 = .ok (.getfield 47, 3) := by decide +kernel
theorem dX5_leads_41 : decode cX5_leads 41 = .ok (.invokevirtual 87, 3) := by decide +kernel
theorem dX5_leads_44 : decode cX5_leads 44 = .ok (.ireturn, 1) := by decide +kernel
theorem dX5_leads_45 : decode cX5_leads 45 = .ok (.aload_n 0, 1) := by decide +kernel
theorem dX5_leads_46 : decode cX5_leads 46 = .ok (.iload 5, 2) := by decide +kernel
theorem dX5_leads_48 : decode cX5_leads 48 = .ok (.iload 4, 2) := by decide +kernel
theorem dX5_leads_50 : decode cX5_leads 50 = .ok (.invokevirtual 57, 3) := by decide +kernel
theorem dX5_leads_53 : decode cX5_leads 53 = .ok (.istore 6, 2) := by decide +kernel
theorem dX5_leads_55 : decode cX5_leads 55 = .ok (.iload 6, 2) := by decide +kernel
theorem dX5_leads_57 : decode cX5_leads 57 = .ok (.iconst (-1), 1) := by decide +kernel
theorem dX5_leads_58 : decode cX5_leads 58 = .ok (.if_icmp .eq 28, 3) := by decide +kernel
theorem dX5_leads_61 : decode cX5_leads 61 = .ok (.aload_n 0, 1) := by decide +kernel
theorem dX5_leads_62 : decode cX5_leads 62 = .ok (.getfield 27, 3) := by decide +kernel
theorem dX5_leads_65 : decode cX5_leads 65 = .ok (.aload_n 0, 1) := by decide +kernel
theorem dX5_leads_66 : decode cX5_leads 66 = .ok (.getfield 18, 3) := by decide +kernel
theorem dX5_leads_69 : decode cX5_leads 69 = .ok (.iload 6, 2) := by decide +kernel
theorem dX5_leads_71 : decode cX5_leads 71 = .ok (.iaload, 1) := by decide +kernel
theorem dX5_leads_72 : decode cX5_leads 72 = .ok (.aload_n 1, 1) := by decide +kernel
theorem dX5_leads_73 : decode cX5_leads 73 = .ok (.getfield 47, 3) := by decide +kernel
theorem dX5_leads_76 : decode cX5_leads 76 = .ok (.invokevirtual 87, 3) := by decide +kernel
theorem dX5_leads_79 : decode cX5_leads 79 = .ok (.ifCond .eq 7, 3) := by decide +kernel
theorem dX5_leads_82 : decode cX5_leads 82 = .ok (.iconst 1, 1) := by decide +kernel
theorem dX5_leads_83 : decode cX5_leads 83 = .ok (.goto 4, 3) := by decide +kernel
theorem dX5_leads_86 : decode cX5_leads 86 = .ok (.iconst 0, 1) := by decide +kernel
theorem dX5_leads_87 : decode cX5_leads 87 = .ok (.ireturn, 1) := by decide +kernel
theorem dX5_leadingMember_0 : decode cX5_leadingMember 0 = .ok (.iconst 0, 1) := by decide +kernel
theorem dX5_leadingMember_1 : decode cX5_leadingMember 1 = .ok (.istore_n 3, 1) := by decide +kernel
theorem dX5_leadingMember_2 : decode cX5_leadingMember 2 = .ok (.iload_n 3, 1) := by decide +kernel
theorem dX5_leadingMember_3 : decode cX5_leadingMember 3 = .ok (.aload_n 0, 1) := by decide +kernel
theorem dX5_leadingMember_4 : decode cX5_leadingMember 4 = .ok (.getfield 27, 3) := by decide +kernel
theorem dX5_leadingMember_7 : decode cX5_leadingMember 7 = .ok (.getfield 91, 3) := by decide +kernel
theorem dX5_leadingMember_10 : decode cX5_leadingMember 10 = .ok (.if_icmp .ge 91, 3) := by decide +kernel
theorem dX5_leadingMember_13 : decode cX5_leadingMember 13 = .ok (.aload_n 0, 1) := by decide +kernel
theorem dX5_leadingMember_14 : decode cX5_leadingMember 14 = .ok (.getfield 27, 3) := by decide +kernel
theorem dX5_leadingMember_17 : decode cX5_leadingMember 17 = .ok (.iload_n 3, 1) := by decide +kernel
theorem dX5_leadingMember_18 : decode cX5_leadingMember 18 = .ok (.invokevirtual 53, 3) := by decide +kernel
theorem dX5_leadingMember_21 : decode cX5_leadingMember 21 = .ok (.istore 4, 2) := by decide +kernel
theorem dX5_leadingMember_23 : decode cX5_leadingMember 23 = .ok (.aload_n 0, 1) := by decide +kernel
theorem dX5_leadingMember_24 : decode cX5_leadingMember 24 = .ok (.iload 4, 2) := by decide +kernel
theorem dX5_leadingMember_26 : decode cX5_leadingMember 26 = .ok (.invokevirtual 63, 3) := by decide +kernel
theorem dX5_leadingMember_29 : decode cX5_leadingMember 29 = .ok (.istore 5, 2) := by decide +kernel
theorem dX5_leadingMember_31 : decode cX5_leadingMember 31 = .ok (.iload 5, 2) := by decide +kernel
theorem dX5_leadingMember_33 : decode cX5_leadingMember 33 = .ok (.aload_n 0, 1) := by decide +kernel
theorem dX5_leadingMember_34 : decode cX5_leadingMember 34 = .ok (.iload 4, 2) := by decide +kernel
theorem dX5_leadingMember_36 : decode cX5_leadingMember 36 = .ok (.invokevirtual 60, 3) := by decide +kernel
theorem dX5_leadingMember_39 : decode cX5_leadingMember 39 = .ok (.if_icmp .ge 56, 3) := by decide +kernel
theorem dX5_leadingMember_42 : decode cX5_leadingMember 42 = .ok (.aload_n 0, 1) := by decide +kernel
theorem dX5_leadingMember_43 : decode cX5_leadingMember 43 = .ok (.getfield 18, 3) := by decide +kernel
theorem dX5_leadingMember_46 : decode cX5_leadingMember 46 = .ok (.iload 5, 2) := by decide +kernel
theorem dX5_leadingMember_48 : decode cX5_leadingMember 48 = .ok (.iaload, 1) := by decide +kernel
theorem dX5_leadingMember_49 : decode cX5_leadingMember 49 = .ok (.iload_n 3, 1) := by decide +kernel
theorem dX5_leadingMember_50 : decode cX5_leadingMember 50 = .ok (.if_icmp .ne 39, 3) := by decide +kernel
theorem dX5_leadingMember_53 : decode cX5_leadingMember 53 = .ok (.iload 4, 2) := by decide +kernel
theorem dX5_leadingMember_55 : decode cX5_leadingMember 55 = .ok (.iload_n 1, 1) := by decide +kernel
theorem dX5_leadingMember_56 : decode cX5_leadingMember 56 = .ok (.if_icmp .ne 14, 3) := by decide +kernel
theorem dX5_leadingMember_59 : decode cX5_leadingMember 59 = .ok (.aload_n 0, 1) := by decide +kernel
theorem dX5_leadingMember_60 : decode cX5_leadingMember 60 = .ok (.getfield 15, 3) := by decide +kernel
theorem dX5_leadingMember_63 : decode cX5_leadingMember 63 = .ok (.iload 5, 2) := by decide +kernel
theorem dX5_leadingMember_65 : decode cX5_leadingMember 65 = .ok (.iaload, 1) := by decide +kernel
theorem dX5_leadingMember_66 : decode cX5_leadingMember 66 = .ok (.iload_n 2, 1) := by decide +kernel
theorem dX5_leadingMember_67 : decode cX5_leadingMember 67 = .ok (.if_icmp .eq 22, 3) := by decide +kernel
theorem dX5_leadingMember_70 : decode cX5_leadingMember 70 = .ok (.aload_n 0, 1) := by decide +kernel
theorem dX5_leadingMember_71 : decode cX5_leadingMember 71 = .ok (.iload 5, 2) := by decide +kernel
theorem dX5_leadingMember_73 : decode cX5_leadingMember 73 = .ok (.iload_n 1, 1) := by decide +kernel
theorem dX5_leadingMember_74 : decode cX5_leadingMember 74 = .ok (.iload_n 2, 1) := by decide +kernel
theorem dX5_leadingMember_75 : decode cX5_leadingMember 75 = .ok (.invokevirtual 94, 3) := by decide +kernel
theorem dX5_leadingMember_78 : decode cX5_leadingMember 78 = .ok (.istore 6, 2) := by decide +kernel
theorem dX5_leadingMember_80 : decode cX5_leadingMember 80 = .ok (.iload 6, 2) := by decide +kernel
theorem dX5_leadingMember_82 : decode cX5_leadingMember 82 = .ok (.iconst (-1), 1) := by decide +kernel
theorem dX5_leadingMember_83 : decode cX5_leadingMember 83 = .ok (.if_icmp .eq 6, 3) := by decide +kernel
theorem dX5_leadingMember_86 : decode cX5_leadingMember 86 = .ok (.iload 6, 2) := by decide +kernel
theorem dX5_leadingMember_88 : decode cX5_leadingMember 88 = .ok (.ireturn, 1) := by decide +kernel
theorem dX5_leadingMember_89 : decode cX5_leadingMember 89 = .ok (.iinc 5 1, 3) := by decide +kernel
theorem dX5_leadingMember_92 : decode cX5_leadingMember 92 = .ok (.goto (-61), 3) := by decide +kernel
theorem dX5_leadingMember_95 : decode cX5_leadingMember 95 = .ok (.iinc 3 1, 3) := by decide +kernel
theorem dX5_leadingMember_98 : decode cX5_leadingMember 98 = .ok (.goto (-96), 3) := by decide +kernel
theorem dX5_leadingMember_101 : decode cX5_leadingMember 101 = .ok (.iconst (-1), 1) := by decide +kernel
theorem dX5_leadingMember_102 : decode cX5_leadingMember 102 = .ok (.ireturn, 1) := by decide +kernel
theorem dX5_memberLeading_0 : decode cX5_memberLeading 0 = .ok (.aload_n 0, 1) := by decide +kernel
theorem dX5_memberLeading_1 : decode cX5_memberLeading 1 = .ok (.getfield 27, 3) := by decide +kernel
theorem dX5_memberLeading_4 : decode cX5_memberLeading 4 = .ok (.getfield 98, 3) := by decide +kernel
theorem dX5_memberLeading_7 : decode cX5_memberLeading 7 = .ok (.aload_n 0, 1) := by decide +kernel
theorem dX5_memberLeading_8 : decode cX5_memberLeading 8 = .ok (.getfield 18, 3) := by decide +kernel
theorem dX5_memberLeading_11 : decode cX5_memberLeading 11 = .ok (.iload_n 1, 1) := by decide +kernel
theorem dX5_memberLeading_12 : decode cX5_memberLeading 12 = .ok (.iaload, 1) := by decide +kernel
theorem dX5_memberLeading_13 : decode cX5_memberLeading 13 = .ok (.aaload, 1) := by decide +kernel
theorem dX5_memberLeading_14 : decode cX5_memberLeading 14 = .ok (.astore 4, 2) := by decide +kernel
theorem dX5_memberLeading_16 : decode cX5_memberLeading 16 = .ok (.iconst 0, 1) := by decide +kernel
theorem dX5_memberLeading_17 : decode cX5_memberLeading 17 = .ok (.istore 5, 2) := by decide +kernel
theorem dX5_memberLeading_19 : decode cX5_memberLeading 19 = .ok (.iload 5, 2) := by decide +kernel
theorem dX5_memberLeading_21 : decode cX5_memberLeading 21 = .ok (.aload 4, 2) := by decide +kernel
theorem dX5_memberLeading_23 : decode cX5_memberLeading 23 = .ok (.getfield 101, 3) := by decide +kernel
theorem dX5_memberLeading_26 : decode cX5_memberLeading 26 = .ok (.if_icmp .ge 58, 3) := by decide +kernel
theorem dX5_memberLeading_29 : decode cX5_memberLeading 29 = .ok (.aload 4, 2) := by decide +kernel
theorem dX5_memberLeading_31 : decode cX5_memberLeading 31 = .ok (.getfield 106, 3) := by decide +kernel
theorem dX5_memberLeading_34 : decode cX5_memberLeading 34 = .ok (.iload 5, 2) := by decide +kernel
theorem dX5_memberLeading_36 : decode cX5_memberLeading 36 = .ok (.aaload, 1) := by decide +kernel
theorem dX5_memberLeading_37 : decode cX5_memberLeading 37 = .ok (.astore 6, 2) := by decide +kernel
theorem dX5_memberLeading_39 : decode cX5_memberLeading 39 = .ok (.aload 6, 2) := by decide +kernel
theorem dX5_memberLeading_41 : decode cX5_memberLeading 41 = .ok (.getfield 70, 3) := by decide +kernel
theorem dX5_memberLeading_44 : decode cX5_memberLeading 44 = .ok (.iconst 4, 1) := by decide +kernel
theorem dX5_memberLeading_45 : decode cX5_memberLeading 45 = .ok (.if_icmp .ne 33, 3) := by decide +kernel
theorem dX5_memberLeading_48 : decode cX5_memberLeading 48 = .ok (.aload_n 0, 1) := by decide +kernel
theorem dX5_memberLeading_49 : decode cX5_memberLeading 49 = .ok (.iload_n 1, 1) := by decide +kernel
theorem dX5_memberLeading_50 : decode cX5_memberLeading 50 = .ok (.iload 5, 2) := by decide +kernel
theorem dX5_memberLeading_52 : decode cX5_memberLeading 52 = .ok (.invokevirtual 43, 3) := by decide +kernel
theorem dX5_memberLeading_55 : decode cX5_memberLeading 55 = .ok (.iload_n 3, 1) := by decide +kernel
theorem dX5_memberLeading_56 : decode cX5_memberLeading 56 = .ok (.if_icmp .ne 22, 3) := by decide +kernel
theorem dX5_memberLeading_59 : decode cX5_memberLeading 59 = .ok (.aload_n 0, 1) := by decide +kernel
theorem dX5_memberLeading_60 : decode cX5_memberLeading 60 = .ok (.getfield 27, 3) := by decide +kernel
theorem dX5_memberLeading_63 : decode cX5_memberLeading 63 = .ok (.aload 6, 2) := by decide +kernel
theorem dX5_memberLeading_65 : decode cX5_memberLeading 65 = .ok (.getfield 47, 3) := by decide +kernel
theorem dX5_memberLeading_68 : decode cX5_memberLeading 68 = .ok (.invokevirtual 53, 3) := by decide +kernel
theorem dX5_memberLeading_71 : decode cX5_memberLeading 71 = .ok (.iload_n 2, 1) := by decide +kernel
theorem dX5_memberLeading_72 : decode cX5_memberLeading 72 = .ok (.if_icmp .ne 6, 3) := by decide +kernel
theorem dX5_memberLeading_75 : decode cX5_memberLeading 75 = .ok (.iload 5, 2) := by decide +kernel
theorem dX5_memberLeading_77 : decode cX5_memberLeading 77 = .ok (.ireturn, 1) := by decide +kernel
theorem dX5_memberLeading_78 : decode cX5_memberLeading 78 = .ok (.iinc 5 1, 3) := by decide +kernel
theorem dX5_memberLeading_81 : decode cX5_memberLeading 81 = .ok (.goto (-62), 3) := by decide +kernel
theorem dX5_memberLeading_84 : decode cX5_memberLeading 84 = .ok (.iconst (-1), 1) := by decide +kernel
theorem dX5_memberLeading_85 : decode cX5_memberLeading 85 = .ok (.ireturn, 1) := by decide +kernel
theorem dX5_oneCell_0 : decode cX5_oneCell 0 = .ok (.iload_n 3, 1) := by decide +kernel
theorem dX5_oneCell_1 : decode cX5_oneCell 1 = .ok (.iconst 2, 1) := by decide +kernel
theorem dX5_oneCell_2 : decode cX5_oneCell 2 = .ok (.if_icmp .ge 25, 3) := by decide +kernel
theorem dX5_oneCell_5 : decode cX5_oneCell 5 = .ok (.iload_n 3, 1) := by decide +kernel
theorem dX5_oneCell_6 : decode cX5_oneCell 6 = .ok (.ifCond .ne 13, 3) := by decide +kernel
theorem dX5_oneCell_9 : decode cX5_oneCell 9 = .ok (.aload_n 0, 1) := by decide +kernel
theorem dX5_oneCell_10 : decode cX5_oneCell 10 = .ok (.getfield 18, 3) := by decide +kernel
theorem dX5_oneCell_13 : decode cX5_oneCell 13 = .ok (.iload_n 2, 1) := by decide +kernel
theorem dX5_oneCell_14 : decode cX5_oneCell 14 = .ok (.iaload, 1) := by decide +kernel
theorem dX5_oneCell_15 : decode cX5_oneCell 15 = .ok (.i2l, 1) := by decide +kernel
theorem dX5_oneCell_16 : decode cX5_oneCell 16 = .ok (.goto 10, 3) := by decide +kernel
theorem dX5_oneCell_19 : decode cX5_oneCell 19 = .ok (.aload_n 0, 1) := by decide +kernel
theorem dX5_oneCell_20 : decode cX5_oneCell 20 = .ok (.getfield 21, 3) := by decide +kernel
theorem dX5_oneCell_23 : decode cX5_oneCell 23 = .ok (.iload_n 2, 1) := by decide +kernel
theorem dX5_oneCell_24 : decode cX5_oneCell 24 = .ok (.iaload, 1) := by decide +kernel
theorem dX5_oneCell_25 : decode cX5_oneCell 25 = .ok (.i2l, 1) := by decide +kernel
theorem dX5_oneCell_26 : decode cX5_oneCell 26 = .ok (.lreturn, 1) := by decide +kernel
theorem dX5_oneCell_27 : decode cX5_oneCell 27 = .ok (.iload_n 3, 1) := by decide +kernel
theorem dX5_oneCell_28 : decode cX5_oneCell 28 = .ok (.iconst 2, 1) := by decide +kernel
theorem dX5_oneCell_29 : decode cX5_oneCell 29 = .ok (.isub, 1) := by decide +kernel
theorem dX5_oneCell_30 : decode cX5_oneCell 30 = .ok (.istore 4, 2) := by decide +kernel
theorem dX5_oneCell_32 : decode cX5_oneCell 32 = .ok (.iload_n 1, 1) := by decide +kernel
theorem dX5_oneCell_33 : decode cX5_oneCell 33 = .ok (.istore 5, 2) := by decide +kernel
theorem dX5_oneCell_35 : decode cX5_oneCell 35 = .ok (.iload 5, 2) := by decide +kernel
theorem dX5_oneCell_37 : decode cX5_oneCell 37 = .ok (.aload_n 0, 1) := by decide +kernel
theorem dX5_oneCell_38 : decode cX5_oneCell 38 = .ok (.getfield 27, 3) := by decide +kernel
theorem dX5_oneCell_41 : decode cX5_oneCell 41 = .ok (.getfield 91, 3) := by decide +kernel
theorem dX5_oneCell_44 : decode cX5_oneCell 44 = .ok (.if_icmp .ge 82, 3) := by decide +kernel
theorem dX5_oneCell_47 : decode cX5_oneCell 47 = .ok (.aload_n 0, 1) := by decide +kernel
theorem dX5_oneCell_48 : decode cX5_oneCell 48 = .ok (.getfield 27, 3) := by decide +kernel
theorem dX5_oneCell_51 : decode cX5_oneCell 51 = .ok (.iload 5, 2) := by decide +kernel
theorem dX5_oneCell_53 : decode cX5_oneCell 53 = .ok (.invokevirtual 53, 3) := by decide +kernel
theorem dX5_oneCell_56 : decode cX5_oneCell 56 = .ok (.iload_n 1, 1) := by decide +kernel
theorem dX5_oneCell_57 : decode cX5_oneCell 57 = .ok (.if_icmp .ne 63, 3) := by decide +kernel
theorem dX5_oneCell_60 : decode cX5_oneCell 60 = .ok (.aload_n 0, 1) := by decide +kernel
theorem dX5_oneCell_61 : decode cX5_oneCell 61 = .ok (.iload 5, 2) := by decide +kernel
theorem dX5_oneCell_63 : decode cX5_oneCell 63 = .ok (.iload 4, 2) := by decide +kernel
theorem dX5_oneCell_65 : decode cX5_oneCell 65 = .ok (.invokevirtual 110, 3) := by decide +kernel
theorem dX5_oneCell_68 : decode cX5_oneCell 68 = .ok (.istore 6, 2) := by decide +kernel
theorem dX5_oneCell_70 : decode cX5_oneCell 70 = .ok (.iload 6, 2) := by decide +kernel
theorem dX5_oneCell_72 : decode cX5_oneCell 72 = .ok (.iconst (-1), 1) := by decide +kernel
theorem dX5_oneCell_73 : decode cX5_oneCell 73 = .ok (.if_icmp .eq 36, 3) := by decide +kernel
theorem dX5_oneCell_76 : decode cX5_oneCell 76 = .ok (.aload_n 0, 1) := by decide +kernel
theorem dX5_oneCell_77 : decode cX5_oneCell 77 = .ok (.getfield 27, 3) := by decide +kernel
theorem dX5_oneCell_80 : decode cX5_oneCell 80 = .ok (.aload_n 0, 1) := by decide +kernel
theorem dX5_oneCell_81 : decode cX5_oneCell 81 = .ok (.getfield 18, 3) := by decide +kernel
theorem dX5_oneCell_84 : decode cX5_oneCell 84 = .ok (.iload_n 2, 1) := by decide +kernel
theorem dX5_oneCell_85 : decode cX5_oneCell 85 = .ok (.iaload, 1) := by decide +kernel
theorem dX5_oneCell_86 : decode cX5_oneCell 86 = .ok (.iload 5, 2) := by decide +kernel
theorem dX5_oneCell_88 : decode cX5_oneCell 88 = .ok (.invokevirtual 87, 3) := by decide +kernel
theorem dX5_oneCell_91 : decode cX5_oneCell 91 = .ok (.ifCond .eq 14, 3) := by decide +kernel
theorem dX5_oneCell_94 : decode cX5_oneCell 94 = .ok (.aload_n 0, 1) := by decide +kernel
theorem dX5_oneCell_95 : decode cX5_oneCell 95 = .ok (.iload_n 2, 1) := by decide +kernel
theorem dX5_oneCell_96 : decode cX5_oneCell 96 = .ok (.iload 6, 2) := by decide +kernel
theorem dX5_oneCell_98 : decode cX5_oneCell 98 = .ok (.invokevirtual 43, 3) := by decide +kernel
theorem dX5_oneCell_101 : decode cX5_oneCell 101 = .ok (.i2l, 1) := by decide +kernel
theorem dX5_oneCell_102 : decode cX5_oneCell 102 = .ok (.goto 6, 3) := by decide +kernel
theorem dX5_oneCell_105 : decode cX5_oneCell 105 = .ok (.ldc2_w 113, 3) := by decide +kernel
theorem dX5_oneCell_108 : decode cX5_oneCell 108 = .ok (.lreturn, 1) := by decide +kernel
theorem dX5_oneCell_109 : decode cX5_oneCell 109 = .ok (.iload 4, 2) := by decide +kernel
theorem dX5_oneCell_111 : decode cX5_oneCell 111 = .ok (.aload_n 0, 1) := by decide +kernel
theorem dX5_oneCell_112 : decode cX5_oneCell 112 = .ok (.iload 5, 2) := by decide +kernel
theorem dX5_oneCell_114 : decode cX5_oneCell 114 = .ok (.invokevirtual 115, 3) := by decide +kernel
theorem dX5_oneCell_117 : decode cX5_oneCell 117 = .ok (.isub, 1) := by decide +kernel
theorem dX5_oneCell_118 : decode cX5_oneCell 118 = .ok (.istore 4, 2) := by decide +kernel
theorem dX5_oneCell_120 : decode cX5_oneCell 120 = .ok (.iinc 5 1, 3) := by decide +kernel
theorem dX5_oneCell_123 : decode cX5_oneCell 123 = .ok (.goto (-88), 3) := by decide +kernel
theorem dX5_oneCell_126 : decode cX5_oneCell 126 = .ok (.ldc2_w 120, 3) := by decide +kernel
theorem dX5_oneCell_129 : decode cX5_oneCell 129 = .ok (.lreturn, 1) := by decide +kernel
theorem dX5_joinedCell_0 : decode cX5_joinedCell 0 = .ok (.aload_n 0, 1) := by decide +kernel
theorem dX5_joinedCell_1 : decode cX5_joinedCell 1 = .ok (.getfield 27, 3) := by decide +kernel
theorem dX5_joinedCell_4 : decode cX5_joinedCell 4 = .ok (.aload_n 0, 1) := by decide +kernel
theorem dX5_joinedCell_5 : decode cX5_joinedCell 5 = .ok (.getfield 18, 3) := by decide +kernel
theorem dX5_joinedCell_8 : decode cX5_joinedCell 8 = .ok (.iload_n 2, 1) := by decide +kernel
theorem dX5_joinedCell_9 : decode cX5_joinedCell 9 = .ok (.iaload, 1) := by decide +kernel
theorem dX5_joinedCell_10 : decode cX5_joinedCell 10 = .ok (.iload_n 1, 1) := by decide +kernel
theorem dX5_joinedCell_11 : decode cX5_joinedCell 11 = .ok (.invokevirtual 87, 3) := by decide +kernel
theorem dX5_joinedCell_14 : decode cX5_joinedCell 14 = .ok (.ifCond .ne 7, 3) := by decide +kernel
theorem dX5_joinedCell_17 : decode cX5_joinedCell 17 = .ok (.ldc2_w 120, 3) := by decide +kernel
theorem dX5_joinedCell_20 : decode cX5_joinedCell 20 = .ok (.lreturn, 1) := by decide +kernel
theorem dX5_joinedCell_21 : decode cX5_joinedCell 21 = .ok (.aload_n 0, 1) := by decide +kernel
theorem dX5_joinedCell_22 : decode cX5_joinedCell 22 = .ok (.getfield 27, 3) := by decide +kernel
theorem dX5_joinedCell_25 : decode cX5_joinedCell 25 = .ok (.iload_n 1, 1) := by decide +kernel
theorem dX5_joinedCell_26 : decode cX5_joinedCell 26 = .ok (.invokevirtual 53, 3) := by decide +kernel
theorem dX5_joinedCell_29 : decode cX5_joinedCell 29 = .ok (.iload_n 1, 1) := by decide +kernel
theorem dX5_joinedCell_30 : decode cX5_joinedCell 30 = .ok (.if_icmp .ne 7, 3) := by decide +kernel
theorem dX5_joinedCell_33 : decode cX5_joinedCell 33 = .ok (.iconst 1, 1) := by decide +kernel
theorem dX5_joinedCell_34 : decode cX5_joinedCell 34 = .ok (.goto 4, 3) := by decide +kernel
theorem dX5_joinedCell_37 : decode cX5_joinedCell 37 = .ok (.iconst 0, 1) := by decide +kernel
theorem dX5_joinedCell_38 : decode cX5_joinedCell 38 = .ok (.istore 4, 2) := by decide +kernel
theorem dX5_joinedCell_40 : decode cX5_joinedCell 40 = .ok (.iload 4, 2) := by decide +kernel
theorem dX5_joinedCell_42 : decode cX5_joinedCell 42 = .ok (.ifCond .eq 30, 3) := by decide +kernel
theorem dX5_joinedCell_45 : decode cX5_joinedCell 45 = .ok (.iload_n 3, 1) := by decide +kernel
theorem dX5_joinedCell_46 : decode cX5_joinedCell 46 = .ok (.iconst 2, 1) := by decide +kernel
theorem dX5_joinedCell_47 : decode cX5_joinedCell 47 = .ok (.if_icmp .ge 25, 3) := by decide +kernel
theorem dX5_joinedCell_50 : decode cX5_joinedCell 50 = .ok (.iload_n 3, 1) := by decide +kernel
theorem dX5_joinedCell_51 : decode cX5_joinedCell 51 = .ok (.ifCond .ne 13, 3) := by decide +kernel
theorem dX5_joinedCell_54 : decode cX5_joinedCell 54 = .ok (.aload_n 0, 1) := by decide +kernel
theorem dX5_joinedCell_55 : decode cX5_joinedCell 55 = .ok (.getfield 18, 3) := by decide +kernel
theorem dX5_joinedCell_58 : decode cX5_joinedCell 58 = .ok (.iload_n 2, 1) := by decide +kernel
theorem dX5_joinedCell_59 : decode cX5_joinedCell 59 = .ok (.iaload, 1) := by decide +kernel
theorem dX5_joinedCell_60 : decode cX5_joinedCell 60 = .ok (.i2l, 1) := by decide +kernel
theorem dX5_joinedCell_61 : decode cX5_joinedCell 61 = .ok (.goto 10, 3) := by decide +kernel
theorem dX5_joinedCell_64 : decode cX5_joinedCell 64 = .ok (.aload_n 0, 1) := by decide +kernel
theorem dX5_joinedCell_65 : decode cX5_joinedCell 65 = .ok (.getfield 21, 3) := by decide +kernel
theorem dX5_joinedCell_68 : decode cX5_joinedCell 68 = .ok (.iload_n 2, 1) := by decide +kernel
theorem dX5_joinedCell_69 : decode cX5_joinedCell 69 = .ok (.iaload, 1) := by decide +kernel
theorem dX5_joinedCell_70 : decode cX5_joinedCell 70 = .ok (.i2l, 1) := by decide +kernel
theorem dX5_joinedCell_71 : decode cX5_joinedCell 71 = .ok (.lreturn, 1) := by decide +kernel
theorem dX5_joinedCell_72 : decode cX5_joinedCell 72 = .ok (.aload_n 0, 1) := by decide +kernel
theorem dX5_joinedCell_73 : decode cX5_joinedCell 73 = .ok (.iload_n 1, 1) := by decide +kernel
theorem dX5_joinedCell_74 : decode cX5_joinedCell 74 = .ok (.iload 4, 2) := by decide +kernel
theorem dX5_joinedCell_76 : decode cX5_joinedCell 76 = .ok (.ifCond .eq 9, 3) := by decide +kernel
theorem dX5_joinedCell_79 : decode cX5_joinedCell 79 = .ok (.iload_n 3, 1) := by decide +kernel
theorem dX5_joinedCell_80 : decode cX5_joinedCell 80 = .ok (.iconst 2, 1) := by decide +kernel
theorem dX5_joinedCell_81 : decode cX5_joinedCell 81 = .ok (.isub, 1) := by decide +kernel
theorem dX5_joinedCell_82 : decode cX5_joinedCell 82 = .ok (.goto 4, 3) := by decide +kernel
theorem dX5_joinedCell_85 : decode cX5_joinedCell 85 = .ok (.iload_n 3, 1) := by decide +kernel
theorem dX5_joinedCell_86 : decode cX5_joinedCell 86 = .ok (.invokevirtual 110, 3) := by decide +kernel
theorem dX5_joinedCell_89 : decode cX5_joinedCell 89 = .ok (.istore 5, 2) := by decide +kernel
theorem dX5_joinedCell_91 : decode cX5_joinedCell 91 = .ok (.iload 5, 2) := by decide +kernel
theorem dX5_joinedCell_93 : decode cX5_joinedCell 93 = .ok (.iconst (-1), 1) := by decide +kernel
theorem dX5_joinedCell_94 : decode cX5_joinedCell 94 = .ok (.if_icmp .ne 9, 3) := by decide +kernel
theorem dX5_joinedCell_97 : decode cX5_joinedCell 97 = .ok (.ldc2_w 120, 3) := by decide +kernel
theorem dX5_joinedCell_100 : decode cX5_joinedCell 100 = .ok (.goto 11, 3) := by decide +kernel
theorem dX5_joinedCell_103 : decode cX5_joinedCell 103 = .ok (.aload_n 0, 1) := by decide +kernel
theorem dX5_joinedCell_104 : decode cX5_joinedCell 104 = .ok (.iload_n 2, 1) := by decide +kernel
theorem dX5_joinedCell_105 : decode cX5_joinedCell 105 = .ok (.iload 5, 2) := by decide +kernel
theorem dX5_joinedCell_107 : decode cX5_joinedCell 107 = .ok (.invokevirtual 43, 3) := by decide +kernel
theorem dX5_joinedCell_110 : decode cX5_joinedCell 110 = .ok (.i2l, 1) := by decide +kernel
theorem dX5_joinedCell_111 : decode cX5_joinedCell 111 = .ok (.lreturn, 1) := by decide +kernel
theorem dX5_ownCell_0 : decode cX5_ownCell 0 = .ok (.aload_n 0, 1) := by decide +kernel
theorem dX5_ownCell_1 : decode cX5_ownCell 1 = .ok (.getfield 18, 3) := by decide +kernel
theorem dX5_ownCell_4 : decode cX5_ownCell 4 = .ok (.iload_n 2, 1) := by decide +kernel
theorem dX5_ownCell_5 : decode cX5_ownCell 5 = .ok (.iaload, 1) := by decide +kernel
theorem dX5_ownCell_6 : decode cX5_ownCell 6 = .ok (.iload_n 1, 1) := by decide +kernel
theorem dX5_ownCell_7 : decode cX5_ownCell 7 = .ok (.if_icmp .eq 7, 3) := by decide +kernel
theorem dX5_ownCell_10 : decode cX5_ownCell 10 = .ok (.ldc2_w 120, 3) := by decide +kernel
theorem dX5_ownCell_13 : decode cX5_ownCell 13 = .ok (.lreturn, 1) := by decide +kernel
theorem dX5_ownCell_14 : decode cX5_ownCell 14 = .ok (.iload_n 3, 1) := by decide +kernel
theorem dX5_ownCell_15 : decode cX5_ownCell 15 = .ok (.ifCond .ne 11, 3) := by decide +kernel
theorem dX5_ownCell_18 : decode cX5_ownCell 18 = .ok (.aload_n 0, 1) := by decide +kernel
theorem dX5_ownCell_19 : decode cX5_ownCell 19 = .ok (.getfield 21, 3) := by decide +kernel
theorem dX5_ownCell_22 : decode cX5_ownCell 22 = .ok (.iload_n 2, 1) := by decide +kernel
theorem dX5_ownCell_23 : decode cX5_ownCell 23 = .ok (.iaload, 1) := by decide +kernel
theorem dX5_ownCell_24 : decode cX5_ownCell 24 = .ok (.i2l, 1) := by decide +kernel
theorem dX5_ownCell_25 : decode cX5_ownCell 25 = .ok (.lreturn, 1) := by decide +kernel
theorem dX5_ownCell_26 : decode cX5_ownCell 26 = .ok (.aload_n 0, 1) := by decide +kernel
theorem dX5_ownCell_27 : decode cX5_ownCell 27 = .ok (.iload_n 1, 1) := by decide +kernel
theorem dX5_ownCell_28 : decode cX5_ownCell 28 = .ok (.iconst 0, 1) := by decide +kernel
theorem dX5_ownCell_29 : decode cX5_ownCell 29 = .ok (.iload_n 3, 1) := by decide +kernel
theorem dX5_ownCell_30 : decode cX5_ownCell 30 = .ok (.iconst 1, 1) := by decide +kernel
theorem dX5_ownCell_31 : decode cX5_ownCell 31 = .ok (.isub, 1) := by decide +kernel
theorem dX5_ownCell_32 : decode cX5_ownCell 32 = .ok (.invokevirtual 122, 3) := by decide +kernel
theorem dX5_ownCell_35 : decode cX5_ownCell 35 = .ok (.istore 4, 2) := by decide +kernel
theorem dX5_ownCell_37 : decode cX5_ownCell 37 = .ok (.iload 4, 2) := by decide +kernel
theorem dX5_ownCell_39 : decode cX5_ownCell 39 = .ok (.iconst (-1), 1) := by decide +kernel
theorem dX5_ownCell_40 : decode cX5_ownCell 40 = .ok (.if_icmp .ne 9, 3) := by decide +kernel
theorem dX5_ownCell_43 : decode cX5_ownCell 43 = .ok (.ldc2_w 120, 3) := by decide +kernel
theorem dX5_ownCell_46 : decode cX5_ownCell 46 = .ok (.goto 11, 3) := by decide +kernel
theorem dX5_ownCell_49 : decode cX5_ownCell 49 = .ok (.aload_n 0, 1) := by decide +kernel
theorem dX5_ownCell_50 : decode cX5_ownCell 50 = .ok (.iload_n 2, 1) := by decide +kernel
theorem dX5_ownCell_51 : decode cX5_ownCell 51 = .ok (.iload 4, 2) := by decide +kernel
theorem dX5_ownCell_53 : decode cX5_ownCell 53 = .ok (.invokevirtual 43, 3) := by decide +kernel
theorem dX5_ownCell_56 : decode cX5_ownCell 56 = .ok (.i2l, 1) := by decide +kernel
theorem dX5_ownCell_57 : decode cX5_ownCell 57 = .ok (.lreturn, 1) := by decide +kernel
theorem dX5_ownColumn_0 : decode cX5_ownColumn 0 = .ok (.aload_n 0, 1) := by decide +kernel
theorem dX5_ownColumn_1 : decode cX5_ownColumn 1 = .ok (.iload_n 1, 1) := by decide +kernel
theorem dX5_ownColumn_2 : decode cX5_ownColumn 2 = .ok (.aload_n 0, 1) := by decide +kernel
theorem dX5_ownColumn_3 : decode cX5_ownColumn 3 = .ok (.iload_n 1, 1) := by decide +kernel
theorem dX5_ownColumn_4 : decode cX5_ownColumn 4 = .ok (.invokevirtual 125, 3) := by decide +kernel
theorem dX5_ownColumn_7 : decode cX5_ownColumn 7 = .ok (.iload_n 2, 1) := by decide +kernel
theorem dX5_ownColumn_8 : decode cX5_ownColumn 8 = .ok (.invokevirtual 122, 3) := by decide +kernel
theorem dX5_ownColumn_11 : decode cX5_ownColumn 11 = .ok (.ireturn, 1) := by decide +kernel
theorem dX5_firstOwn_0 : decode cX5_firstOwn 0 = .ok (.aload_n 0, 1) := by decide +kernel
theorem dX5_firstOwn_1 : decode cX5_firstOwn 1 = .ok (.getfield 27, 3) := by decide +kernel
theorem dX5_firstOwn_4 : decode cX5_firstOwn 4 = .ok (.aload_n 0, 1) := by decide +kernel
theorem dX5_firstOwn_5 : decode cX5_firstOwn 5 = .ok (.getfield 27, 3) := by decide +kernel
theorem dX5_firstOwn_8 : decode cX5_firstOwn 8 = .ok (.getfield 98, 3) := by decide +kernel
theorem dX5_firstOwn_11 : decode cX5_firstOwn 11 = .ok (.iload_n 1, 1) := by decide +kernel
theorem dX5_firstOwn_12 : decode cX5_firstOwn 12 = .ok (.aaload, 1) := by decide +kernel
theorem dX5_firstOwn_13 : decode cX5_firstOwn 13 = .ok (.getfield 128, 3) := by decide +kernel
theorem dX5_firstOwn_16 : decode cX5_firstOwn 16 = .ok (.invokevirtual 131, 3) := by decide +kernel
theorem dX5_firstOwn_19 : decode cX5_firstOwn 19 = .ok (.astore_n 2, 1) := by decide +kernel
theorem dX5_firstOwn_20 : decode cX5_firstOwn 20 = .ok (.aload_n 2, 1) := by decide +kernel
theorem dX5_firstOwn_21 : decode cX5_firstOwn 21 = .ok (.ifnonnull 7, 3) := by decide +kernel
theorem dX5_firstOwn_24 : decode cX5_firstOwn 24 = .ok (.iconst 0, 1) := by decide +kernel
theorem dX5_firstOwn_25 : decode cX5_firstOwn 25 = .ok (.goto 7, 3) := by decide +kernel
theorem dX5_firstOwn_28 : decode cX5_firstOwn 28 = .ok (.aload_n 2, 1) := by decide +kernel
theorem dX5_firstOwn_29 : decode cX5_firstOwn 29 = .ok (.getfield 101, 3) := by decide +kernel
theorem dX5_firstOwn_32 : decode cX5_firstOwn 32 = .ok (.ireturn, 1) := by decide +kernel
theorem dX5_ownColumns_0 : decode cX5_ownColumns 0 = .ok (.aload_n 0, 1) := by decide +kernel
theorem dX5_ownColumns_1 : decode cX5_ownColumns 1 = .ok (.getfield 27, 3) := by decide +kernel
theorem dX5_ownColumns_4 : decode cX5_ownColumns 4 = .ok (.getfield 98, 3) := by decide +kernel
theorem dX5_ownColumns_7 : decode cX5_ownColumns 7 = .ok (.iload_n 1, 1) := by decide +kernel
theorem dX5_ownColumns_8 : decode cX5_ownColumns 8 = .ok (.aaload, 1) := by decide +kernel
theorem dX5_ownColumns_9 : decode cX5_ownColumns 9 = .ok (.astore_n 2, 1) := by decide +kernel
theorem dX5_ownColumns_10 : decode cX5_ownColumns 10 = .ok (.iconst 0, 1) := by decide +kernel
theorem dX5_ownColumns_11 : decode cX5_ownColumns 11 = .ok (.istore_n 3, 1) := by decide +kernel
theorem dX5_ownColumns_12 : decode cX5_ownColumns 12 = .ok (.aload_n 0, 1) := by decide +kernel
theorem dX5_ownColumns_13 : decode cX5_ownColumns 13 = .ok (.iload_n 1, 1) := by decide +kernel
theorem dX5_ownColumns_14 : decode cX5_ownColumns 14 = .ok (.invokevirtual 125, 3) := by decide +kernel
theorem dX5_ownColumns_17 : decode cX5_ownColumns 17 = .ok (.istore 4, 2) := by decide +kernel
theorem dX5_ownColumns_19 : decode cX5_ownColumns 19 = .ok (.iload 4, 2) := by decide +kernel
theorem dX5_ownColumns_21 : decode cX5_ownColumns 21 = .ok (.aload_n 2, 1) := by decide +kernel
theorem dX5_ownColumns_22 : decode cX5_ownColumns 22 = .ok (.getfield 101, 3) := by decide +kernel
theorem dX5_ownColumns_25 : decode cX5_ownColumns 25 = .ok (.if_icmp .ge 26, 3) := by decide +kernel
theorem dX5_ownColumns_28 : decode cX5_ownColumns 28 = .ok (.aload_n 2, 1) := by decide +kernel
theorem dX5_ownColumns_29 : decode cX5_ownColumns 29 = .ok (.getfield 106, 3) := by decide +kernel
theorem dX5_ownColumns_32 : decode cX5_ownColumns 32 = .ok (.iload 4, 2) := by decide +kernel
theorem dX5_ownColumns_34 : decode cX5_ownColumns 34 = .ok (.aaload, 1) := by decide +kernel
theorem dX5_ownColumns_35 : decode cX5_ownColumns 35 = .ok (.getfield 70, 3) := by decide +kernel
theorem dX5_ownColumns_38 : decode cX5_ownColumns 38 = .ok (.iconst 5, 1) := by decide +kernel
theorem dX5_ownColumns_39 : decode cX5_ownColumns 39 = .ok (.if_icmp .eq 6, 3) := by decide +kernel
theorem dX5_ownColumns_42 : decode cX5_ownColumns 42 = .ok (.iinc 3 1, 3) := by decide +kernel
theorem dX5_ownColumns_45 : decode cX5_ownColumns 45 = .ok (.iinc 4 1, 3) := by decide +kernel
theorem dX5_ownColumns_48 : decode cX5_ownColumns 48 = .ok (.goto (-29), 3) := by decide +kernel
theorem dX5_ownColumns_51 : decode cX5_ownColumns 51 = .ok (.iload_n 3, 1) := by decide +kernel
theorem dX5_ownColumns_52 : decode cX5_ownColumns 52 = .ok (.ireturn, 1) := by decide +kernel
theorem dX5_columnFrom_0 : decode cX5_columnFrom 0 = .ok (.aload_n 0, 1) := by decide +kernel
theorem dX5_columnFrom_1 : decode cX5_columnFrom 1 = .ok (.getfield 27, 3) := by decide +kernel
theorem dX5_columnFrom_4 : decode cX5_columnFrom 4 = .ok (.getfield 98, 3) := by decide +kernel
theorem dX5_columnFrom_7 : decode cX5_columnFrom 7 = .ok (.iload_n 1, 1) := by decide +kernel
theorem dX5_columnFrom_8 : decode cX5_columnFrom 8 = .ok (.aaload, 1) := by decide +kernel
theorem dX5_columnFrom_9 : decode cX5_columnFrom 9 = .ok (.astore 4, 2) := by decide +kernel
theorem dX5_columnFrom_11 : decode cX5_columnFrom 11 = .ok (.iload_n 3, 1) := by decide +kernel
theorem dX5_columnFrom_12 : decode cX5_columnFrom 12 = .ok (.istore 5, 2) := by decide +kernel
theorem dX5_columnFrom_14 : decode cX5_columnFrom 14 = .ok (.iload_n 2, 1) := by decide +kernel
theorem dX5_columnFrom_15 : decode cX5_columnFrom 15 = .ok (.istore 6, 2) := by decide +kernel
theorem dX5_columnFrom_17 : decode cX5_columnFrom 17 = .ok (.iload 6, 2) := by decide +kernel
theorem dX5_columnFrom_19 : decode cX5_columnFrom 19 = .ok (.aload 4, 2) := by decide +kernel
theorem dX5_columnFrom_21 : decode cX5_columnFrom 21 = .ok (.getfield 101, 3) := by decide +kernel
theorem dX5_columnFrom_24 : decode cX5_columnFrom 24 = .ok (.if_icmp .ge 35, 3) := by decide +kernel
theorem dX5_columnFrom_27 : decode cX5_columnFrom 27 = .ok (.aload 4, 2) := by decide +kernel
theorem dX5_columnFrom_29 : decode cX5_columnFrom 29 = .ok (.getfield 106, 3) := by decide +kernel
theorem dX5_columnFrom_32 : decode cX5_columnFrom 32 = .ok (.iload 6, 2) := by decide +kernel
theorem dX5_columnFrom_34 : decode cX5_columnFrom 34 = .ok (.aaload, 1) := by decide +kernel
theorem dX5_columnFrom_35 : decode cX5_columnFrom 35 = .ok (.getfield 70, 3) := by decide +kernel
theorem dX5_columnFrom_38 : decode cX5_columnFrom 38 = .ok (.iconst 5, 1) := by decide +kernel
theorem dX5_columnFrom_39 : decode cX5_columnFrom 39 = .ok (.if_icmp .eq 14, 3) := by decide +kernel
theorem dX5_columnFrom_42 : decode cX5_columnFrom 42 = .ok (.iload 5, 2) := by decide +kernel
theorem dX5_columnFrom_44 : decode cX5_columnFrom 44 = .ok (.ifCond .ne 6, 3) := by decide +kernel
theorem dX5_columnFrom_47 : decode cX5_columnFrom 47 = .ok (.iload 6, 2) := by decide +kernel
theorem dX5_columnFrom_49 : decode cX5_columnFrom 49 = .ok (.ireturn, 1) := by decide +kernel
theorem dX5_columnFrom_50 : decode cX5_columnFrom 50 = .ok (.iinc 5 (-1), 3) := by decide +kernel
theorem dX5_columnFrom_53 : decode cX5_columnFrom 53 = .ok (.iinc 6 1, 3) := by decide +kernel
theorem dX5_columnFrom_56 : decode cX5_columnFrom 56 = .ok (.goto (-39), 3) := by decide +kernel
theorem dX5_columnFrom_59 : decode cX5_columnFrom 59 = .ok (.iconst (-1), 1) := by decide +kernel
theorem dX5_columnFrom_60 : decode cX5_columnFrom 60 = .ok (.ireturn, 1) := by decide +kernel
theorem dX6_init_0 : decode cX6_init 0 = .ok (.aload_n 0, 1) := by decide +kernel
theorem dX6_init_1 : decode cX6_init 1 = .ok (.invokespecial 3, 3) := by decide +kernel
theorem dX6_init_4 : decode cX6_init 4 = .ok (.aload_n 0, 1) := by decide +kernel
theorem dX6_init_5 : decode cX6_init 5 = .ok (.bipush 12, 2) := by decide +kernel
theorem dX6_init_7 : decode cX6_init 7 = .ok (.anewarray 9, 3) := by decide +kernel
theorem dX6_init_10 : decode cX6_init 10 = .ok (.putfield 11, 3) := by decide +kernel
theorem dX6_init_13 : decode cX6_init 13 = .ok (.aload_n 0, 1) := by decide +kernel
theorem dX6_init_14 : decode cX6_init 14 = .ok (.sipush 192, 3) := by decide +kernel
theorem dX6_init_17 : decode cX6_init 17 = .ok (.anewarray 17, 3) := by decide +kernel
theorem dX6_init_20 : decode cX6_init 20 = .ok (.putfield 19, 3) := by decide +kernel
theorem dX6_init_23 : decode cX6_init 23 = .ok (.aload_n 0, 1) := by decide +kernel
theorem dX6_init_24 : decode cX6_init 24 = .ok (.sipush 1500, 3) := by decide +kernel
theorem dX6_init_27 : decode cX6_init 27 = .ok (.newarray .long, 2) := by decide +kernel
theorem dX6_init_29 : decode cX6_init 29 = .ok (.putfield 23, 3) := by decide +kernel
theorem dX6_init_32 : decode cX6_init 32 = .ok (.iconst 0, 1) := by decide +kernel
theorem dX6_init_33 : decode cX6_init 33 = .ok (.istore_n 1, 1) := by decide +kernel
theorem dX6_init_34 : decode cX6_init 34 = .ok (.iload_n 1, 1) := by decide +kernel
theorem dX6_init_35 : decode cX6_init 35 = .ok (.bipush 12, 2) := by decide +kernel
theorem dX6_init_37 : decode cX6_init 37 = .ok (.if_icmp .ge 22, 3) := by decide +kernel
theorem dX6_init_40 : decode cX6_init 40 = .ok (.aload_n 0, 1) := by decide +kernel
theorem dX6_init_41 : decode cX6_init 41 = .ok (.getfield 11, 3) := by decide +kernel
theorem dX6_init_44 : decode cX6_init 44 = .ok (.iload_n 1, 1) := by decide +kernel
theorem dX6_init_45 : decode cX6_init 45 = .ok (.new 9, 3) := by decide +kernel
theorem dX6_init_48 : decode cX6_init 48 = .ok (.dup, 1) := by decide +kernel
theorem dX6_init_49 : decode cX6_init 49 = .ok (.invokespecial 27, 3) := by decide +kernel
theorem dX6_init_52 : decode cX6_init 52 = .ok (.aastore, 1) := by decide +kernel
theorem dX6_init_53 : decode cX6_init 53 = .ok (.iinc 1 1, 3) := by decide +kernel
theorem dX6_init_56 : decode cX6_init 56 = .ok (.goto (-22), 3) := by decide +kernel
theorem dX6_init_59 : decode cX6_init 59 = .ok (.iconst 0, 1) := by decide +kernel
theorem dX6_init_60 : decode cX6_init 60 = .ok (.istore_n 1, 1) := by decide +kernel
theorem dX6_init_61 : decode cX6_init 61 = .ok (.iload_n 1, 1) := by decide +kernel
theorem dX6_init_62 : decode cX6_init 62 = .ok (.sipush 192, 3) := by decide +kernel
theorem dX6_init_65 : decode cX6_init 65 = .ok (.if_icmp .ge 22, 3) := by decide +kernel
theorem dX6_init_68 : decode cX6_init 68 = .ok (.aload_n 0, 1) := by decide +kernel
theorem dX6_init_69 : decode cX6_init 69 = .ok (.getfield 19, 3) := by decide +kernel
theorem dX6_init_72 : decode cX6_init 72 = .ok (.iload_n 1, 1) := by decide +kernel
theorem dX6_init_73 : decode cX6_init 73 = .ok (.new 17, 3) := by decide +kernel
theorem dX6_init_76 : decode cX6_init 76 = .ok (.dup, 1) := by decide +kernel
theorem dX6_init_77 : decode cX6_init 77 = .ok (.invokespecial 28, 3) := by decide +kernel
theorem dX6_init_80 : decode cX6_init 80 = .ok (.aastore, 1) := by decide +kernel
theorem dX6_init_81 : decode cX6_init 81 = .ok (.iinc 1 1, 3) := by decide +kernel
theorem dX6_init_84 : decode cX6_init 84 = .ok (.goto (-23), 3) := by decide +kernel
theorem dX6_init_87 : decode cX6_init 87 = .ok (.return_, 1) := by decide +kernel
theorem dX6_clear_0 : decode cX6_clear 0 = .ok (.aload_n 0, 1) := by decide +kernel
theorem dX6_clear_1 : decode cX6_clear 1 = .ok (.iconst 0, 1) := by decide +kernel
theorem dX6_clear_2 : decode cX6_clear 2 = .ok (.putfield 29, 3) := by decide +kernel
theorem dX6_clear_5 : decode cX6_clear 5 = .ok (.aload_n 0, 1) := by decide +kernel
theorem dX6_clear_6 : decode cX6_clear 6 = .ok (.iconst 0, 1) := by decide +kernel
theorem dX6_clear_7 : decode cX6_clear 7 = .ok (.putfield 33, 3) := by decide +kernel
theorem dX6_clear_10 : decode cX6_clear 10 = .ok (.aload_n 0, 1) := by decide +kernel
theorem dX6_clear_11 : decode cX6_clear 11 = .ok (.iconst 0, 1) := by decide +kernel
theorem dX6_clear_12 : decode cX6_clear 12 = .ok (.putfield 36, 3) := by decide +kernel
theorem dX6_clear_15 : decode cX6_clear 15 = .ok (.return_, 1) := by decide +kernel
theorem dX6_kindAt_0 : decode cX6_kindAt 0 = .ok (.iload_n 1, 1) := by decide +kernel
theorem dX6_kindAt_1 : decode cX6_kindAt 1 = .ok (.ifCond .lt 11, 3) := by decide +kernel
theorem dX6_kindAt_4 : decode cX6_kindAt 4 = .ok (.iload_n 1, 1) := by decide +kernel
theorem dX6_kindAt_5 : decode cX6_kindAt 5 = .ok (.aload_n 0, 1) := by decide +kernel
theorem dX6_kindAt_6 : decode cX6_kindAt 6 = .ok (.getfield 29, 3) := by decide +kernel
theorem dX6_kindAt_9 : decode cX6_kindAt 9 = .ok (.if_icmp .lt 7, 3) := by decide +kernel
theorem dX6_kindAt_12 : decode cX6_kindAt 12 = .ok (.aconst_null, 1) := by decide +kernel
theorem dX6_kindAt_13 : decode cX6_kindAt 13 = .ok (.goto 9, 3) := by decide +kernel
theorem dX6_kindAt_16 : decode cX6_kindAt 16 = .ok (.aload_n 0, 1) := by decide +kernel
theorem dX6_kindAt_17 : decode cX6_kindAt 17 = .ok (.getfield 11, 3) := by decide +kernel
theorem dX6_kindAt_20 : decode cX6_kindAt 20 = .ok (.iload_n 1, 1) := by decide +kernel
theorem dX6_kindAt_21 : decode cX6_kindAt 21 = .ok (.aaload, 1) := by decide +kernel
theorem dX6_kindAt_22 : decode cX6_kindAt 22 = .ok (.areturn, 1) := by decide +kernel
theorem dX6_rootOf_0 : decode cX6_rootOf 0 = .ok (.iload_n 1, 1) := by decide +kernel
theorem dX6_rootOf_1 : decode cX6_rootOf 1 = .ok (.ifCond .lt 11, 3) := by decide +kernel
theorem dX6_rootOf_4 : decode cX6_rootOf 4 = .ok (.iload_n 1, 1) := by decide +kernel
theorem dX6_rootOf_5 : decode cX6_rootOf 5 = .ok (.aload_n 0, 1) := by decide +kernel
theorem dX6_rootOf_6 : decode cX6_rootOf 6 = .ok (.getfield 29, 3) := by decide +kernel
theorem dX6_rootOf_9 : decode cX6_rootOf 9 = .ok (.if_icmp .lt 7, 3) := by decide +kernel
theorem dX6_rootOf_12 : decode cX6_rootOf 12 = .ok (.iconst (-1), 1) := by decide +kernel
theorem dX6_rootOf_13 : decode cX6_rootOf 13 = .ok (.goto 12, 3) := by decide +kernel
theorem dX6_rootOf_16 : decode cX6_rootOf 16 = .ok (.aload_n 0, 1) := by decide +kernel
theorem dX6_rootOf_17 : decode cX6_rootOf 17 = .ok (.getfield 11, 3) := by decide +kernel
theorem dX6_rootOf_20 : decode cX6_rootOf 20 = .ok (.iload_n 1, 1) := by decide +kernel
theorem dX6_rootOf_21 : decode cX6_rootOf 21 = .ok (.aaload, 1) := by decide +kernel
theorem dX6_rootOf_22 : decode cX6_rootOf 22 = .ok (.getfield 39, 3) := by decide +kernel
theorem dX6_rootOf_25 : decode cX6_rootOf 25 = .ok (.ireturn, 1) := by decide +kernel
theorem dX6_memberAt_0 : decode cX6_memberAt 0 = .ok (.aload_n 0, 1) := by decide +kernel
theorem dX6_memberAt_1 : decode cX6_memberAt 1 = .ok (.iload_n 1, 1) := by decide +kernel
theorem dX6_memberAt_2 : decode cX6_memberAt 2 = .ok (.invokevirtual 42, 3) := by decide +kernel
theorem dX6_memberAt_5 : decode cX6_memberAt 5 = .ok (.astore_n 3, 1) := by decide +kernel
theorem dX6_memberAt_6 : decode cX6_memberAt 6 = .ok (.aload_n 3, 1) := by decide +kernel
theorem dX6_memberAt_7 : decode cX6_memberAt 7 = .ok (.ifnull 15, 3) := by decide +kernel
theorem dX6_memberAt_10 : decode cX6_memberAt 10 = .ok (.iload_n 2, 1) := by decide +kernel
theorem dX6_memberAt_11 : decode cX6_memberAt 11 = .ok (.ifCond .lt 11, 3) := by decide +kernel
theorem dX6_memberAt_14 : decode cX6_memberAt 14 = .ok (.iload_n 2, 1) := by decide +kernel
theorem dX6_memberAt_15 : decode cX6_memberAt 15 = .ok (.aload_n 3, 1) := by decide +kernel
theorem dX6_memberAt_16 : decode cX6_memberAt 16 = .ok (.getfield 46, 3) := by decide +kernel
theorem dX6_memberAt_19 : decode cX6_memberAt 19 = .ok (.if_icmp .lt 7, 3) := by decide +kernel
theorem dX6_memberAt_22 : decode cX6_memberAt 22 = .ok (.aconst_null, 1) := by decide +kernel
theorem dX6_memberAt_23 : decode cX6_memberAt 23 = .ok (.goto 9, 3) := by decide +kernel
theorem dX6_memberAt_26 : decode cX6_memberAt 26 = .ok (.aload_n 3, 1) := by decide +kernel
theorem dX6_memberAt_27 : decode cX6_memberAt 27 = .ok (.getfield 49, 3) := by decide +kernel
theorem dX6_memberAt_30 : decode cX6_memberAt 30 = .ok (.iload_n 2, 1) := by decide +kernel
theorem dX6_memberAt_31 : decode cX6_memberAt 31 = .ok (.aaload, 1) := by decide +kernel
theorem dX6_memberAt_32 : decode cX6_memberAt 32 = .ok (.areturn, 1) := by decide +kernel
theorem dX6_memberNamed_0 : decode cX6_memberNamed 0 = .ok (.aload_n 0, 1) := by decide +kernel
theorem dX6_memberNamed_1 : decode cX6_memberNamed 1 = .ok (.iload_n 1, 1) := by decide +kernel
theorem dX6_memberNamed_2 : decode cX6_memberNamed 2 = .ok (.invokevirtual 42, 3) := by decide +kernel
theorem dX6_memberNamed_5 : decode cX6_memberNamed 5 = .ok (.astore 4, 2) := by decide +kernel
theorem dX6_memberNamed_7 : decode cX6_memberNamed 7 = .ok (.aload 4, 2) := by decide +kernel
theorem dX6_memberNamed_9 : decode cX6_memberNamed 9 = .ok (.ifnonnull 7, 3) := by decide +kernel
theorem dX6_memberNamed_12 : decode cX6_memberNamed 12 = .ok (.iconst (-1), 1) := by decide +kernel
theorem dX6_memberNamed_13 : decode cX6_memberNamed 13 = .ok (.goto 9, 3) := by decide +kernel
theorem dX6_memberNamed_16 : decode cX6_memberNamed 16 = .ok (.aload 4, 2) := by decide +kernel
theorem dX6_memberNamed_18 : decode cX6_memberNamed 18 = .ok (.lload_n 2, 1) := by decide +kernel
theorem dX6_memberNamed_19 : decode cX6_memberNamed 19 = .ok (.invokevirtual 52, 3) := by decide +kernel
theorem dX6_memberNamed_22 : decode cX6_memberNamed 22 = .ok (.ireturn, 1) := by decide +kernel
theorem dX6_classNamed_0 : decode cX6_classNamed 0 = .ok (.iconst 0, 1) := by decide +kernel
theorem dX6_classNamed_1 : decode cX6_classNamed 1 = .ok (.istore_n 3, 1) := by decide +kernel
theorem dX6_classNamed_2 : decode cX6_classNamed 2 = .ok (.iload_n 3, 1) := by decide +kernel
theorem dX6_classNamed_3 : decode cX6_classNamed 3 = .ok (.aload_n 0, 1) := by decide +kernel
theorem dX6_classNamed_4 : decode cX6_classNamed 4 = .ok (.getfield 29, 3) := by decide +kernel
theorem dX6_classNamed_7 : decode cX6_classNamed 7 = .ok (.if_icmp .ge 25, 3) := by decide +kernel
theorem dX6_classNamed_10 : decode cX6_classNamed 10 = .ok (.aload_n 0, 1) := by decide +kernel
theorem dX6_classNamed_11 : decode cX6_classNamed 11 = .ok (.getfield 11, 3) := by decide +kernel
theorem dX6_classNamed_14 : decode cX6_classNamed 14 = .ok (.iload_n 3, 1) := by decide +kernel
theorem dX6_classNamed_15 : decode cX6_classNamed 15 = .ok (.aaload, 1) := by decide +kernel
theorem dX6_classNamed_16 : decode cX6_classNamed 16 = .ok (.getfield 56, 3) := by decide +kernel
theorem dX6_classNamed_19 : decode cX6_classNamed 19 = .ok (.lload_n 1, 1) := by decide +kernel
theorem dX6_classNamed_20 : decode cX6_classNamed 20 = .ok (.lcmp, 1) := by decide +kernel
theorem dX6_classNamed_21 : decode cX6_classNamed 21 = .ok (.ifCond .ne 5, 3) := by decide +kernel
theorem dX6_classNamed_24 : decode cX6_classNamed 24 = .ok (.iload_n 3, 1) := by decide +kernel
theorem dX6_classNamed_25 : decode cX6_classNamed 25 = .ok (.ireturn, 1) := by decide +kernel
theorem dX6_classNamed_26 : decode cX6_classNamed 26 = .ok (.iinc 3 1, 3) := by decide +kernel
theorem dX6_classNamed_29 : decode cX6_classNamed 29 = .ok (.goto (-27), 3) := by decide +kernel
theorem dX6_classNamed_32 : decode cX6_classNamed 32 = .ok (.iconst (-1), 1) := by decide +kernel
theorem dX6_classNamed_33 : decode cX6_classNamed 33 = .ok (.ireturn, 1) := by decide +kernel
theorem dX6_isOf_0 : decode cX6_isOf 0 = .ok (.iload_n 1, 1) := by decide +kernel
theorem dX6_isOf_1 : decode cX6_isOf 1 = .ok (.istore_n 3, 1) := by decide +kernel
theorem dX6_isOf_2 : decode cX6_isOf 2 = .ok (.iconst 0, 1) := by decide +kernel
theorem dX6_isOf_3 : decode cX6_isOf 3 = .ok (.istore 4, 2) := by decide +kernel
theorem dX6_isOf_5 : decode cX6_isOf 5 = .ok (.iload 4, 2) := by decide +kernel
theorem dX6_isOf_7 : decode cX6_isOf 7 = .ok (.bipush 12, 2) := by decide +kernel
theorem dX6_isOf_9 : decode cX6_isOf 9 = .ok (.if_icmp .ge 38, 3) := by decide +kernel
theorem dX6_isOf_12 : decode cX6_isOf 12 = .ok (.iload_n 3, 1) := by decide +kernel
theorem dX6_isOf_13 : decode cX6_isOf 13 = .ok (.ifCond .lt 34, 3) := by decide +kernel
theorem dX6_isOf_16 : decode cX6_isOf 16 = .ok (.iload_n 3, 1) := by decide +kernel
theorem dX6_isOf_17 : decode cX6_isOf 17 = .ok (.aload_n 0, 1) := by decide +kernel
theorem dX6_isOf_18 : decode cX6_isOf 18 = .ok (.getfield 29, 3) := by decide +kernel
theorem dX6_isOf_21 : decode cX6_isOf 21 = .ok (.if_icmp .ge 26, 3) := by decide +kernel
theorem dX6_isOf_24 : decode cX6_isOf 24 = .ok (.iload_n 3, 1) := by decide +kernel
theorem dX6_isOf_25 : decode cX6_isOf 25 = .ok (.iload_n 2, 1) := by decide +kernel
theorem dX6_isOf_26 : decode cX6_isOf 26 = .ok (.if_icmp .ne 5, 3) := by decide +kernel
theorem dX6_isOf_29 : decode cX6_isOf 29 = .ok (.iconst 1, 1) := by decide +kernel
theorem dX6_isOf_30 : decode cX6_isOf 30 = .ok (.ireturn, 1) := by decide +kernel
theorem dX6_isOf_31 : decode cX6_isOf 31 = .ok (.aload_n 0, 1) := by decide +kernel
theorem dX6_isOf_32 : decode cX6_isOf 32 = .ok (.getfield 11, 3) := by decide +kernel
theorem dX6_isOf_35 : decode cX6_isOf 35 = .ok (.iload_n 3, 1) := by decide +kernel
theorem dX6_isOf_36 : decode cX6_isOf 36 = .ok (.aaload, 1) := by decide +kernel
theorem dX6_isOf_37 : decode cX6_isOf 37 = .ok (.getfield 60, 3) := by decide +kernel
theorem dX6_isOf_40 : decode cX6_isOf 40 = .ok (.istore_n 3, 1) := by decide +kernel
theorem dX6_isOf_41 : decode cX6_isOf 41 = .ok (.iinc 4 1, 3) := by decide +kernel
theorem dX6_isOf_44 : decode cX6_isOf 44 = .ok (.goto (-39), 3) := by decide +kernel
theorem dX6_isOf_47 : decode cX6_isOf 47 = .ok (.iconst 0, 1) := by decide +kernel
theorem dX6_isOf_48 : decode cX6_isOf 48 = .ok (.ireturn, 1) := by decide +kernel
theorem dX6_nameNumber_0 : decode cX6_nameNumber 0 = .ok (.iconst 0, 1) := by decide +kernel
theorem dX6_nameNumber_1 : decode cX6_nameNumber 1 = .ok (.istore 4, 2) := by decide +kernel
theorem dX6_nameNumber_3 : decode cX6_nameNumber 3 = .ok (.iload 4, 2) := by decide +kernel
theorem dX6_nameNumber_5 : decode cX6_nameNumber 5 = .ok (.aload_n 1, 1) := by decide +kernel
theorem dX6_nameNumber_6 : decode cX6_nameNumber 6 = .ok (.getfield 63, 3) := by decide +kernel
theorem dX6_nameNumber_9 : decode cX6_nameNumber 9 = .ok (.if_icmp .ge 29, 3) := by decide +kernel
theorem dX6_nameNumber_12 : decode cX6_nameNumber 12 = .ok (.aload_n 0, 1) := by decide +kernel
theorem dX6_nameNumber_13 : decode cX6_nameNumber 13 = .ok (.getfield 23, 3) := by decide +kernel
theorem dX6_nameNumber_16 : decode cX6_nameNumber 16 = .ok (.aload_n 1, 1) := by decide +kernel
theorem dX6_nameNumber_17 : decode cX6_nameNumber 17 = .ok (.getfield 66, 3) := by decide +kernel
theorem dX6_nameNumber_20 : decode cX6_nameNumber 20 = .ok (.iload 4, 2) := by decide +kernel
theorem dX6_nameNumber_22 : decode cX6_nameNumber 22 = .ok (.iadd, 1) := by decide +kernel
theorem dX6_nameNumber_23 : decode cX6_nameNumber 23 = .ok (.laload, 1) := by decide +kernel
theorem dX6_nameNumber_24 : decode cX6_nameNumber 24 = .ok (.lload_n 2, 1) := by decide +kernel
theorem dX6_nameNumber_25 : decode cX6_nameNumber 25 = .ok (.lcmp, 1) := by decide +kernel
theorem dX6_nameNumber_26 : decode cX6_nameNumber 26 = .ok (.ifCond .ne 6, 3) := by decide +kernel
theorem dX6_nameNumber_29 : decode cX6_nameNumber 29 = .ok (.iload 4, 2) := by decide +kernel
theorem dX6_nameNumber_31 : decode cX6_nameNumber 31 = .ok (.ireturn, 1) := by decide +kernel
theorem dX6_nameNumber_32 : decode cX6_nameNumber 32 = .ok (.iinc 4 1, 3) := by decide +kernel
theorem dX6_nameNumber_35 : decode cX6_nameNumber 35 = .ok (.goto (-32), 3) := by decide +kernel
theorem dX6_nameNumber_38 : decode cX6_nameNumber 38 = .ok (.iconst (-1), 1) := by decide +kernel
theorem dX6_nameNumber_39 : decode cX6_nameNumber 39 = .ok (.ireturn, 1) := by decide +kernel
theorem dX6_addClass_0 : decode cX6_addClass 0 = .ok (.aload_n 0, 1) := by decide +kernel
theorem dX6_addClass_1 : decode cX6_addClass 1 = .ok (.getfield 11, 3) := by decide +kernel
theorem dX6_addClass_4 : decode cX6_addClass 4 = .ok (.aload_n 0, 1) := by decide +kernel
theorem dX6_addClass_5 : decode cX6_addClass 5 = .ok (.getfield 29, 3) := by decide +kernel
theorem dX6_addClass_8 : decode cX6_addClass 8 = .ok (.aaload, 1) := by decide +kernel
theorem dX6_addClass_9 : decode cX6_addClass 9 = .ok (.astore 5, 2) := by decide +kernel
theorem dX6_addClass_11 : decode cX6_addClass 11 = .ok (.aload 5, 2) := by decide +kernel
theorem dX6_addClass_13 : decode cX6_addClass 13 = .ok (.lload_n 1, 1) := by decide +kernel
theorem dX6_addClass_14 : decode cX6_addClass 14 = .ok (.aload_n 0, 1) := by decide +kernel
theorem dX6_addClass_15 : decode cX6_addClass 15 = .ok (.getfield 29, 3) := by decide +kernel
theorem dX6_addClass_18 : decode cX6_addClass 18 = .ok (.iload 4, 2) := by decide +kernel
theorem dX6_addClass_20 : decode cX6_addClass 20 = .ok (.invokevirtual 69, 3) := by decide +kernel
theorem dX6_addClass_23 : decode cX6_addClass 23 = .ok (.aload_n 0, 1) := by decide +kernel
theorem dX6_addClass_24 : decode cX6_addClass 24 = .ok (.iload_n 3, 1) := by decide +kernel
theorem dX6_addClass_25 : decode cX6_addClass 25 = .ok (.invokevirtual 42, 3) := by decide +kernel
theorem dX6_addClass_28 : decode cX6_addClass 28 = .ok (.astore 6, 2) := by decide +kernel
theorem dX6_addClass_30 : decode cX6_addClass 30 = .ok (.aload 6, 2) := by decide +kernel
theorem dX6_addClass_32 : decode cX6_addClass 32 = .ok (.ifnull 74, 3) := by decide +kernel
theorem dX6_addClass_35 : decode cX6_addClass 35 = .ok (.aload 5, 2) := by decide +kernel
theorem dX6_addClass_37 : decode cX6_addClass 37 = .ok (.iload_n 3, 1) := by decide +kernel
theorem dX6_addClass_38 : decode cX6_addClass 38 = .ok (.putfield 60, 3) := by decide +kernel
theorem dX6_addClass_41 : decode cX6_addClass 41 = .ok (.aload 5, 2) := by decide +kernel
theorem dX6_addClass_43 : decode cX6_addClass 43 = .ok (.aload 6, 2) := by decide +kernel
theorem dX6_addClass_45 : decode cX6_addClass 45 = .ok (.getfield 39, 3) := by decide +kernel
theorem dX6_addClass_48 : decode cX6_addClass 48 = .ok (.putfield 39, 3) := by decide +kernel
theorem dX6_addClass_51 : decode cX6_addClass 51 = .ok (.aload 5, 2) := by decide +kernel
theorem dX6_addClass_53 : decode cX6_addClass 53 = .ok (.aload 6, 2) := by decide +kernel
theorem dX6_addClass_55 : decode cX6_addClass 55 = .ok (.getfield 73, 3) := by decide +kernel
theorem dX6_addClass_58 : decode cX6_addClass 58 = .ok (.putfield 73, 3) := by decide +kernel
theorem dX6_addClass_61 : decode cX6_addClass 61 = .ok (.aload 5, 2) := by decide +kernel
theorem dX6_addClass_63 : decode cX6_addClass 63 = .ok (.aload 6, 2) := by decide +kernel
theorem dX6_addClass_65 : decode cX6_addClass 65 = .ok (.getfield 46, 3) := by decide +kernel
theorem dX6_addClass_68 : decode cX6_addClass 68 = .ok (.putfield 46, 3) := by decide +kernel
theorem dX6_addClass_71 : decode cX6_addClass 71 = .ok (.iconst 0, 1) := by decide +kernel
theorem dX6_addClass_72 : decode cX6_addClass 72 = .ok (.istore 7, 2) := by decide +kernel
theorem dX6_addClass_74 : decode cX6_addClass 74 = .ok (.iload 7, 2) := by decide +kernel
theorem dX6_addClass_76 : decode cX6_addClass 76 = .ok (.aload 6, 2) := by decide +kernel
theorem dX6_addClass_78 : decode cX6_addClass 78 = .ok (.getfield 46, 3) := by decide +kernel
theorem dX6_addClass_81 : decode cX6_addClass 81 = .ok (.if_icmp .ge 25, 3) := by decide +kernel
theorem dX6_addClass_84 : decode cX6_addClass 84 = .ok (.aload 5, 2) := by decide +kernel
theorem dX6_addClass_86 : decode cX6_addClass 86 = .ok (.getfield 49, 3) := by decide +kernel
theorem dX6_addClass_89 : decode cX6_addClass 89 = .ok (.iload 7, 2) := by decide +kernel
theorem dX6_addClass_91 : decode cX6_addClass 91 = .ok (.aload 6, 2) := by decide +kernel
theorem dX6_addClass_93 : decode cX6_addClass 93 = .ok (.getfield 49, 3) := by decide +kernel
theorem dX6_addClass_96 : decode cX6_addClass 96 = .ok (.iload 7, 2) := by decide +kernel
theorem dX6_addClass_98 : decode cX6_addClass 98 = .ok (.aaload, 1) := by decide +kernel
theorem dX6_addClass_99 : decode cX6_addClass 99 = .ok (.aastore, 1) := by decide +kernel
theorem dX6_addClass_100 : decode cX6_addClass 100 = .ok (.iinc 7 1, 3) := by decide +kernel
theorem dX6_addClass_103 : decode cX6_addClass 103 = .ok (.goto (-29), 3) := by decide +kernel
theorem dX6_addClass_106 : decode cX6_addClass 106 = .ok (.aload_n 0, 1) := by decide +kernel
theorem dX6_addClass_107 : decode cX6_addClass 107 = .ok (.dup, 1) := by decide +kernel
theorem dX6_addClass_108 : decode cX6_addClass 108 = .ok (.getfield 29, 3) := by decide +kernel
theorem dX6_addClass_111 : decode cX6_addClass 111 = .ok (.iconst 1, 1) := by decide +kernel
theorem dX6_addClass_112 : decode cX6_addClass 112 = .ok (.iadd, 1) := by decide +kernel
theorem dX6_addClass_113 : decode cX6_addClass 113 = .ok (.putfield 29, 3) := by decide +kernel
theorem dX6_addClass_116 : decode cX6_addClass 116 = .ok (.aload 5, 2) := by decide +kernel
theorem dX6_addClass_118 : decode cX6_addClass 118 = .ok (.areturn, 1) := by decide +kernel
theorem dX6_addMember_0 : decode cX6_addMember 0 = .ok (.aload_n 0, 1) := by decide +kernel
theorem dX6_addMember_1 : decode cX6_addMember 1 = .ok (.getfield 19, 3) := by decide +kernel
theorem dX6_addMember_4 : decode cX6_addMember 4 = .ok (.aload_n 0, 1) := by decide +kernel
theorem dX6_addMember_5 : decode cX6_addMember 5 = .ok (.getfield 33, 3) := by decide +kernel
theorem dX6_addMember_8 : decode cX6_addMember 8 = .ok (.aaload, 1) := by decide +kernel
theorem dX6_addMember_9 : decode cX6_addMember 9 = .ok (.astore 4, 2) := by decide +kernel
theorem dX6_addMember_11 : decode cX6_addMember 11 = .ok (.aload_n 0, 1) := by decide +kernel
theorem dX6_addMember_12 : decode cX6_addMember 12 = .ok (.dup, 1) := by decide +kernel
theorem dX6_addMember_13 : decode cX6_addMember 13 = .ok (.getfield 33, 3) := by decide +kernel
theorem dX6_addMember_16 : decode cX6_addMember 16 = .ok (.iconst 1, 1) := by decide +kernel
theorem dX6_addMember_17 : decode cX6_addMember 17 = .ok (.iadd, 1) := by decide +kernel
theorem dX6_addMember_18 : decode cX6_addMember 18 = .ok (.putfield 33, 3) := by decide +kernel
theorem dX6_addMember_21 : decode cX6_addMember 21 = .ok (.aload 4, 2) := by decide +kernel
theorem dX6_addMember_23 : decode cX6_addMember 23 = .ok (.lload_n 2, 1) := by decide +kernel
theorem dX6_addMember_24 : decode cX6_addMember 24 = .ok (.aload_n 0, 1) := by decide +kernel
theorem dX6_addMember_25 : decode cX6_addMember 25 = .ok (.getfield 29, 3) := by decide +kernel
theorem dX6_addMember_28 : decode cX6_addMember 28 = .ok (.iconst 1, 1) := by decide +kernel
theorem dX6_addMember_29 : decode cX6_addMember 29 = .ok (.isub, 1) := by decide +kernel
theorem dX6_addMember_30 : decode cX6_addMember 30 = .ok (.invokevirtual 76, 3) := by decide +kernel
theorem dX6_addMember_33 : decode cX6_addMember 33 = .ok (.aload_n 1, 1) := by decide +kernel
theorem dX6_addMember_34 : decode cX6_addMember 34 = .ok (.getfield 49, 3) := by decide +kernel
theorem dX6_addMember_37 : decode cX6_addMember 37 = .ok (.aload_n 1, 1) := by decide +kernel
theorem dX6_addMember_38 : decode cX6_addMember 38 = .ok (.getfield 46, 3) := by decide +kernel
theorem dX6_addMember_41 : decode cX6_addMember 41 = .ok (.aload 4, 2) := by decide +kernel
theorem dX6_addMember_43 : decode cX6_addMember 43 = .ok (.aastore, 1) := by decide +kernel
theorem dX6_addMember_44 : decode cX6_addMember 44 = .ok (.aload_n 1, 1) := by decide +kernel
theorem dX6_addMember_45 : decode cX6_addMember 45 = .ok (.dup, 1) := by decide +kernel
theorem dX6_addMember_46 : decode cX6_addMember 46 = .ok (.getfield 46, 3) := by decide +kernel
theorem dX6_addMember_49 : decode cX6_addMember 49 = .ok (.iconst 1, 1) := by decide +kernel
theorem dX6_addMember_50 : decode cX6_addMember 50 = .ok (.iadd, 1) := by decide +kernel
theorem dX6_addMember_51 : decode cX6_addMember 51 = .ok (.putfield 46, 3) := by decide +kernel
theorem dX6_addMember_54 : decode cX6_addMember 54 = .ok (.aload 4, 2) := by decide +kernel
theorem dX6_addMember_56 : decode cX6_addMember 56 = .ok (.areturn, 1) := by decide +kernel
theorem dX6_runHooks_0 : decode cX6_runHooks 0 = .ok (.iconst 0, 1) := by decide +kernel
theorem dX6_runHooks_1 : decode cX6_runHooks 1 = .ok (.istore_n 3, 1) := by decide +kernel
theorem dX6_runHooks_2 : decode cX6_runHooks 2 = .ok (.iload_n 3, 1) := by decide +kernel
theorem dX6_runHooks_3 : decode cX6_runHooks 3 = .ok (.aload_n 0, 1) := by decide +kernel
theorem dX6_runHooks_4 : decode cX6_runHooks 4 = .ok (.getfield 29, 3) := by decide +kernel
theorem dX6_runHooks_7 : decode cX6_runHooks 7 = .ok (.if_icmp .ge 32, 3) := by decide +kernel
theorem dX6_runHooks_10 : decode cX6_runHooks 10 = .ok (.aload_n 0, 1) := by decide +kernel
theorem dX6_runHooks_11 : decode cX6_runHooks 11 = .ok (.aload_n 1, 1) := by decide +kernel
theorem dX6_runHooks_12 : decode cX6_runHooks 12 = .ok (.getfield 79, 3) := by decide +kernel
theorem dX6_runHooks_15 : decode cX6_runHooks 15 = .ok (.iload_n 3, 1) := by decide +kernel
theorem dX6_runHooks_16 : decode cX6_runHooks 16 = .ok (.invokevirtual 83, 3) := by decide +kernel
theorem dX6_runHooks_19 : decode cX6_runHooks 19 = .ok (.ifCond .eq 14, 3) := by decide +kernel
theorem dX6_runHooks_22 : decode cX6_runHooks 22 = .ok (.aload_n 0, 1) := by decide +kernel
theorem dX6_runHooks_23 : decode cX6_runHooks 23 = .ok (.getfield 11, 3) := by decide +kernel
theorem dX6_runHooks_26 : decode cX6_runHooks 26 = .ok (.iload_n 3, 1) := by decide +kernel
theorem dX6_runHooks_27 : decode cX6_runHooks 27 = .ok (.aaload, 1) := by decide +kernel
theorem dX6_runHooks_28 : decode cX6_runHooks 28 = .ok (.aload_n 1, 1) := by decide +kernel
theorem dX6_runHooks_29 : decode cX6_runHooks 29 = .ok (.iload_n 2, 1) := by decide +kernel
theorem dX6_runHooks_30 : decode cX6_runHooks 30 = .ok (.invokevirtual 87, 3) := by decide +kernel
theorem dX6_runHooks_33 : decode cX6_runHooks 33 = .ok (.iinc 3 1, 3) := by decide +kernel
theorem dX6_runHooks_36 : decode cX6_runHooks 36 = .ok (.goto (-34), 3) := by decide +kernel
theorem dX6_runHooks_39 : decode cX6_runHooks 39 = .ok (.return_, 1) := by decide +kernel
theorem dX7_init_0 : decode cX7_init 0 = .ok (.aload_n 0, 1) := by decide +kernel
theorem dX7_init_1 : decode cX7_init 1 = .ok (.invokespecial 3, 3) := by decide +kernel
theorem dX7_init_4 : decode cX7_init 4 = .ok (.aload_n 0, 1) := by decide +kernel
theorem dX7_init_5 : decode cX7_init 5 = .ok (.bipush 16, 2) := by decide +kernel
theorem dX7_init_7 : decode cX7_init 7 = .ok (.newarray .int, 2) := by decide +kernel
theorem dX7_init_9 : decode cX7_init 9 = .ok (.putfield 9, 3) := by decide +kernel
theorem dX7_init_12 : decode cX7_init 12 = .ok (.aload_n 0, 1) := by decide +kernel
theorem dX7_init_13 : decode cX7_init 13 = .ok (.bipush 16, 2) := by decide +kernel
theorem dX7_init_15 : decode cX7_init 15 = .ok (.newarray .int, 2) := by decide +kernel
theorem dX7_init_17 : decode cX7_init 17 = .ok (.putfield 15, 3) := by decide +kernel
theorem dX7_init_20 : decode cX7_init 20 = .ok (.aload_n 0, 1) := by decide +kernel
theorem dX7_init_21 : decode cX7_init 21 = .ok (.iload_n 1, 1) := by decide +kernel
theorem dX7_init_22 : decode cX7_init 22 = .ok (.putfield 18, 3) := by decide +kernel
theorem dX7_init_25 : decode cX7_init 25 = .ok (.return_, 1) := by decide +kernel
theorem dX7_begin_0 : decode cX7_begin 0 = .ok (.aload_n 0, 1) := by decide +kernel
theorem dX7_begin_1 : decode cX7_begin 1 = .ok (.iload_n 1, 1) := by decide +kernel
theorem dX7_begin_2 : decode cX7_begin 2 = .ok (.putfield 22, 3) := by decide +kernel
theorem dX7_begin_5 : decode cX7_begin 5 = .ok (.aload_n 0, 1) := by decide +kernel
theorem dX7_begin_6 : decode cX7_begin 6 = .ok (.iload_n 2, 1) := by decide +kernel
theorem dX7_begin_7 : decode cX7_begin 7 = .ok (.putfield 25, 3) := by decide +kernel
theorem dX7_begin_10 : decode cX7_begin 10 = .ok (.aload_n 0, 1) := by decide +kernel
theorem dX7_begin_11 : decode cX7_begin 11 = .ok (.iload_n 3, 1) := by decide +kernel
theorem dX7_begin_12 : decode cX7_begin 12 = .ok (.putfield 28, 3) := by decide +kernel
theorem dX7_begin_15 : decode cX7_begin 15 = .ok (.aload_n 0, 1) := by decide +kernel
theorem dX7_begin_16 : decode cX7_begin 16 = .ok (.iconst (-1), 1) := by decide +kernel
theorem dX7_begin_17 : decode cX7_begin 17 = .ok (.putfield 31, 3) := by decide +kernel
theorem dX7_begin_20 : decode cX7_begin 20 = .ok (.aload_n 0, 1) := by decide +kernel
theorem dX7_begin_21 : decode cX7_begin 21 = .ok (.iconst 0, 1) := by decide +kernel
theorem dX7_begin_22 : decode cX7_begin 22 = .ok (.putfield 34, 3) := by decide +kernel
theorem dX7_begin_25 : decode cX7_begin 25 = .ok (.aload_n 0, 1) := by decide +kernel
theorem dX7_begin_26 : decode cX7_begin 26 = .ok (.iconst 0, 1) := by decide +kernel
theorem dX7_begin_27 : decode cX7_begin 27 = .ok (.putfield 37, 3) := by decide +kernel
theorem dX7_begin_30 : decode cX7_begin 30 = .ok (.iconst 0, 1) := by decide +kernel
theorem dX7_begin_31 : decode cX7_begin 31 = .ok (.istore 4, 2) := by decide +kernel
theorem dX7_begin_33 : decode cX7_begin 33 = .ok (.iload 4, 2) := by decide +kernel
theorem dX7_begin_35 : decode cX7_begin 35 = .ok (.bipush 16, 2) := by decide +kernel
theorem dX7_begin_37 : decode cX7_begin 37 = .ok (.if_icmp .ge 25, 3) := by decide +kernel
theorem dX7_begin_40 : decode cX7_begin 40 = .ok (.aload_n 0, 1) := by decide +kernel
theorem dX7_begin_41 : decode cX7_begin 41 = .ok (.getfield 9, 3) := by decide +kernel
theorem dX7_begin_44 : decode cX7_begin 44 = .ok (.iload 4, 2) := by decide +kernel
theorem dX7_begin_46 : decode cX7_begin 46 = .ok (.iconst 0, 1) := by decide +kernel
theorem dX7_begin_47 : decode cX7_begin 47 = .ok (.iastore, 1) := by decide +kernel
theorem dX7_begin_48 : decode cX7_begin 48 = .ok (.aload_n 0, 1) := by decide +kernel
theorem dX7_begin_49 : decode cX7_begin 49 = .ok (.getfield 15, 3) := by decide +kernel
theorem dX7_begin_52 : decode cX7_begin 52 = .ok (.iload 4, 2) := by decide +kernel
theorem dX7_begin_54 : decode cX7_begin 54 = .ok (.iconst 0, 1) := by decide +kernel
theorem dX7_begin_55 : decode cX7_begin 55 = .ok (.iastore, 1) := by decide +kernel
theorem dX7_begin_56 : decode cX7_begin 56 = .ok (.iinc 4 1, 3) := by decide +kernel
theorem dX7_begin_59 : decode cX7_begin 59 = .ok (.goto (-26), 3) := by decide +kernel
theorem dX7_begin_62 : decode cX7_begin 62 = .ok (.return_, 1) := by decide +kernel
theorem dX7_isLive_0 : decode cX7_isLive 0 = .ok (.aload_n 0, 1) := by decide +kernel
theorem dX7_isLive_1 : decode cX7_isLive 1 = .ok (.getfield 22, 3) := by decide +kernel
theorem dX7_isLive_4 : decode cX7_isLive 4 = .ok (.iconst 2, 1) := by decide +kernel
theorem dX7_isLive_5 : decode cX7_isLive 5 = .ok (.if_icmp .eq 11, 3) := by decide +kernel
theorem dX7_isLive_8 : decode cX7_isLive 8 = .ok (.aload_n 0, 1) := by decide +kernel
theorem dX7_isLive_9 : decode cX7_isLive 9 = .ok (.getfield 22, 3) := by decide +kernel
theorem dX7_isLive_12 : decode cX7_isLive 12 = .ok (.iconst 1, 1) := by decide +kernel
theorem dX7_isLive_13 : decode cX7_isLive 13 = .ok (.if_icmp .ne 7, 3) := by decide +kernel
theorem dX7_isLive_16 : decode cX7_isLive 16 = .ok (.iconst 1, 1) := by decide +kernel
theorem dX7_isLive_17 : decode cX7_isLive 17 = .ok (.goto 4, 3) := by decide +kernel
theorem dX7_isLive_20 : decode cX7_isLive 20 = .ok (.iconst 0, 1) := by decide +kernel
theorem dX7_isLive_21 : decode cX7_isLive 21 = .ok (.ireturn, 1) := by decide +kernel
theorem dX7_keepCopy_0 : decode cX7_keepCopy 0 = .ok (.aload_n 0, 1) := by decide +kernel
theorem dX7_keepCopy_1 : decode cX7_keepCopy 1 = .ok (.iconst 1, 1) := by decide +kernel
theorem dX7_keepCopy_2 : decode cX7_keepCopy 2 = .ok (.putfield 22, 3) := by decide +kernel
theorem dX7_keepCopy_5 : decode cX7_keepCopy 5 = .ok (.aload_n 0, 1) := by decide +kernel
theorem dX7_keepCopy_6 : decode cX7_keepCopy 6 = .ok (.iload_n 1, 1) := by decide +kernel
theorem dX7_keepCopy_7 : decode cX7_keepCopy 7 = .ok (.putfield 34, 3) := by decide +kernel
theorem dX7_keepCopy_10 : decode cX7_keepCopy 10 = .ok (.aload_n 0, 1) := by decide +kernel
theorem dX7_keepCopy_11 : decode cX7_keepCopy 11 = .ok (.getfield 9, 3) := by decide +kernel
theorem dX7_keepCopy_14 : decode cX7_keepCopy 14 = .ok (.iconst 0, 1) := by decide +kernel
theorem dX7_keepCopy_15 : decode cX7_keepCopy 15 = .ok (.aload_n 0, 1) := by decide +kernel
theorem dX7_keepCopy_16 : decode cX7_keepCopy 16 = .ok (.getfield 15, 3) := by decide +kernel
theorem dX7_keepCopy_19 : decode cX7_keepCopy 19 = .ok (.iconst 0, 1) := by decide +kernel
theorem dX7_keepCopy_20 : decode cX7_keepCopy 20 = .ok (.bipush 16, 2) := by decide +kernel
theorem dX7_keepCopy_22 : decode cX7_keepCopy 22 = .ok (.invokestatic 41, 3) := by decide +kernel
theorem dX7_keepCopy_25 : decode cX7_keepCopy 25 = .ok (.return_, 1) := by decide +kernel
theorem dX7_changes_0 : decode cX7_changes 0 = .ok (.iconst 0, 1) := by decide +kernel
theorem dX7_changes_1 : decode cX7_changes 1 = .ok (.istore_n 1, 1) := by decide +kernel
theorem dX7_changes_2 : decode cX7_changes 2 = .ok (.iconst 0, 1) := by decide +kernel
theorem dX7_changes_3 : decode cX7_changes 3 = .ok (.istore_n 2, 1) := by decide +kernel
theorem dX7_changes_4 : decode cX7_changes 4 = .ok (.iload_n 2, 1) := by decide +kernel
theorem dX7_changes_5 : decode cX7_changes 5 = .ok (.bipush 16, 2) := by decide +kernel
theorem dX7_changes_7 : decode cX7_changes 7 = .ok (.if_icmp .ge 30, 3) := by decide +kernel
theorem dX7_changes_10 : decode cX7_changes 10 = .ok (.aload_n 0, 1) := by decide +kernel
theorem dX7_changes_11 : decode cX7_changes 11 = .ok (.getfield 9, 3) := by decide +kernel
theorem dX7_changes_14 : decode cX7_changes 14 = .ok (.iload_n 2, 1) := by decide +kernel
theorem dX7_changes_15 : decode cX7_changes 15 = .ok (.iaload, 1) := by decide +kernel
theorem dX7_changes_16 : decode cX7_changes 16 = .ok (.aload_n 0, 1) := by decide +kernel
theorem dX7_changes_17 : decode cX7_changes 17 = .ok (.getfield 15, 3) := by decide +kernel
theorem dX7_changes_20 : decode cX7_changes 20 = .ok (.iload_n 2, 1) := by decide +kernel
theorem dX7_changes_21 : decode cX7_changes 21 = .ok (.iaload, 1) := by decide +kernel
theorem dX7_changes_22 : decode cX7_changes 22 = .ok (.if_icmp .eq 9, 3) := by decide +kernel
theorem dX7_changes_25 : decode cX7_changes 25 = .ok (.iload_n 1, 1) := by decide +kernel
theorem dX7_changes_26 : decode cX7_changes 26 = .ok (.iconst 1, 1) := by decide +kernel
theorem dX7_changes_27 : decode cX7_changes 27 = .ok (.iload_n 2, 1) := by decide +kernel
theorem dX7_changes_28 : decode cX7_changes 28 = .ok (.ishl, 1) := by decide +kernel
theorem dX7_changes_29 : decode cX7_changes 29 = .ok (.ior, 1) := by decide +kernel
theorem dX7_changes_30 : decode cX7_changes 30 = .ok (.istore_n 1, 1) := by decide +kernel
theorem dX7_changes_31 : decode cX7_changes 31 = .ok (.iinc 2 1, 3) := by decide +kernel
theorem dX7_changes_34 : decode cX7_changes 34 = .ok (.goto (-30), 3) := by decide +kernel
theorem dX7_changes_37 : decode cX7_changes 37 = .ok (.iload_n 1, 1) := by decide +kernel
theorem dX7_changes_38 : decode cX7_changes 38 = .ok (.ireturn, 1) := by decide +kernel
theorem dX7_isAhead_0 : decode cX7_isAhead 0 = .ok (.aload_n 0, 1) := by decide +kernel
theorem dX7_isAhead_1 : decode cX7_isAhead 1 = .ok (.getfield 31, 3) := by decide +kernel
theorem dX7_isAhead_4 : decode cX7_isAhead 4 = .ok (.aload_n 1, 1) := by decide +kernel
theorem dX7_isAhead_5 : decode cX7_isAhead 5 = .ok (.getfield 31, 3) := by decide +kernel
theorem dX7_isAhead_8 : decode cX7_isAhead 8 = .ok (.if_icmp .eq 22, 3) := by decide +kernel
theorem dX7_isAhead_11 : decode cX7_isAhead 11 = .ok (.aload_n 0, 1) := by decide +kernel
theorem dX7_isAhead_12 : decode cX7_isAhead 12 = .ok (.getfield 31, 3) := by decide +kernel
theorem dX7_isAhead_15 : decode cX7_isAhead 15 = .ok (.aload_n 1, 1) := by decide +kernel
theorem dX7_isAhead_16 : decode cX7_isAhead 16 = .ok (.getfield 31, 3) := by decide +kernel
theorem dX7_isAhead_19 : decode cX7_isAhead 19 = .ok (.if_icmp .ge 7, 3) := by decide +kernel
theorem dX7_isAhead_22 : decode cX7_isAhead 22 = .ok (.iconst 1, 1) := by decide +kernel
theorem dX7_isAhead_23 : decode cX7_isAhead 23 = .ok (.goto 23, 3) := by decide +kernel
theorem dX7_isAhead_26 : decode cX7_isAhead 26 = .ok (.iconst 0, 1) := by decide +kernel
