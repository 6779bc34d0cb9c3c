theorem dX7_isAhead_27 : decode cX7_isAhead 27 = .ok (.goto 19, 3) := by decide +kernel
theorem dX7_isAhead_30 : decode cX7_isAhead 30 = .ok (.aload_n 0, 1) := by decide +kernel
theorem dX7_isAhead_31 : decode cX7_isAhead 31 = .ok (.getfield 28, 3) := by decide +kernel
theorem dX7_isAhead_34 : decode cX7_isAhead 34 = .ok (.aload_n 1, 1) := by decide +kernel
theorem dX7_isAhead_35 : decode cX7_isAhead 35 = .ok (.getfield 28, 3) := by decide +kernel
theorem dX7_isAhead_38 : decode cX7_isAhead 38 = .ok (.if_icmp .ge 7, 3) := by decide +kernel
theorem dX7_isAhead_41 : decode cX7_isAhead 41 = .ok (.iconst 1, 1) := by decide +kernel
theorem dX7_isAhead_42 : decode cX7_isAhead 42 = .ok (.goto 4, 3) := by decide +kernel
theorem dX7_isAhead_45 : decode cX7_isAhead 45 = .ok (.iconst 0, 1) := by decide +kernel
theorem dX7_isAhead_46 : decode cX7_isAhead 46 = .ok (.ireturn, 1) := by decide +kernel
theorem dX8_init_0 : decode cX8_init 0 = .ok (.aload_n 0, 1) := by decide +kernel
theorem dX8_init_1 : decode cX8_init 1 = .ok (.invokespecial 3, 3) := by decide +kernel
theorem dX8_init_4 : decode cX8_init 4 = .ok (.aload_n 0, 1) := by decide +kernel
theorem dX8_init_5 : decode cX8_init 5 = .ok (.sipush 3001, 3) := by decide +kernel
theorem dX8_init_8 : decode cX8_init 8 = .ok (.newarray .int, 2) := by decide +kernel
theorem dX8_init_10 : decode cX8_init 10 = .ok (.putfield 9, 3) := by decide +kernel
theorem dX8_init_13 : decode cX8_init 13 = .ok (.aload_n 0, 1) := by decide +kernel
theorem dX8_init_14 : decode cX8_init 14 = .ok (.sipush 3001, 3) := by decide +kernel
theorem dX8_init_17 : decode cX8_init 17 = .ok (.newarray .int, 2) := by decide +kernel
theorem dX8_init_19 : decode cX8_init 19 = .ok (.putfield 15, 3) := by decide +kernel
theorem dX8_init_22 : decode cX8_init 22 = .ok (.aload_n 0, 1) := by decide +kernel
theorem dX8_init_23 : decode cX8_init 23 = .ok (.sipush 3001, 3) := by decide +kernel
theorem dX8_init_26 : decode cX8_init 26 = .ok (.newarray .long, 2) := by decide +kernel
theorem dX8_init_28 : decode cX8_init 28 = .ok (.putfield 18, 3) := by decide +kernel
theorem dX8_init_31 : decode cX8_init 31 = .ok (.aload_n 0, 1) := by decide +kernel
theorem dX8_init_32 : decode cX8_init 32 = .ok (.iconst (-1), 1) := by decide +kernel
theorem dX8_init_33 : decode cX8_init 33 = .ok (.putfield 22, 3) := by decide +kernel
theorem dX8_init_36 : decode cX8_init 36 = .ok (.return_, 1) := by decide +kernel
theorem dX8_scan_0 : decode cX8_scan 0 = .ok (.aload_n 0, 1) := by decide +kernel
theorem dX8_scan_1 : decode cX8_scan 1 = .ok (.iconst 0, 1) := by decide +kernel
theorem dX8_scan_2 : decode cX8_scan 2 = .ok (.putfield 26, 3) := by decide +kernel
theorem dX8_scan_5 : decode cX8_scan 5 = .ok (.aload_n 0, 1) := by decide +kernel
theorem dX8_scan_6 : decode cX8_scan 6 = .ok (.iconst (-1), 1) := by decide +kernel
theorem dX8_scan_7 : decode cX8_scan 7 = .ok (.putfield 22, 3) := by decide +kernel
theorem dX8_scan_10 : decode cX8_scan 10 = .ok (.aload_n 0, 1) := by decide +kernel
theorem dX8_scan_11 : decode cX8_scan 11 = .ok (.iconst 0, 1) := by decide +kernel
theorem dX8_scan_12 : decode cX8_scan 12 = .ok (.putfield 29, 3) := by decide +kernel
theorem dX8_scan_15 : decode cX8_scan 15 = .ok (.aload_n 0, 1) := by decide +kernel
theorem dX8_scan_16 : decode cX8_scan 16 = .ok (.iconst 0, 1) := by decide +kernel
theorem dX8_scan_17 : decode cX8_scan 17 = .ok (.putfield 32, 3) := by decide +kernel
theorem dX8_scan_20 : decode cX8_scan 20 = .ok (.iconst 0, 1) := by decide +kernel
theorem dX8_scan_21 : decode cX8_scan 21 = .ok (.istore_n 3, 1) := by decide +kernel
theorem dX8_scan_22 : decode cX8_scan 22 = .ok (.iconst 0, 1) := by decide +kernel
theorem dX8_scan_23 : decode cX8_scan 23 = .ok (.istore 4, 2) := by decide +kernel
theorem dX8_scan_25 : decode cX8_scan 25 = .ok (.iload 4, 2) := by decide +kernel
theorem dX8_scan_27 : decode cX8_scan 27 = .ok (.iload_n 2, 1) := by decide +kernel
theorem dX8_scan_28 : decode cX8_scan 28 = .ok (.if_icmp .ge 48, 3) := by decide +kernel
theorem dX8_scan_31 : decode cX8_scan 31 = .ok (.iload_n 3, 1) := by decide +kernel
theorem dX8_scan_32 : decode cX8_scan 32 = .ok (.iload_n 2, 1) := by decide +kernel
theorem dX8_scan_33 : decode cX8_scan 33 = .ok (.if_icmp .ge 43, 3) := by decide +kernel
theorem dX8_scan_36 : decode cX8_scan 36 = .ok (.aload_n 1, 1) := by decide +kernel
theorem dX8_scan_37 : decode cX8_scan 37 = .ok (.iload_n 3, 1) := by decide +kernel
theorem dX8_scan_38 : decode cX8_scan 38 = .ok (.baload, 1) := by decide +kernel
theorem dX8_scan_39 : decode cX8_scan 39 = .ok (.invokestatic 35, 3) := by decide +kernel
theorem dX8_scan_42 : decode cX8_scan 42 = .ok (.ifCond .eq 9, 3) := by decide +kernel
theorem dX8_scan_45 : decode cX8_scan 45 = .ok (.iinc 3 1, 3) := by decide +kernel
theorem dX8_scan_48 : decode cX8_scan 48 = .ok (.goto 22, 3) := by decide +kernel
theorem dX8_scan_51 : decode cX8_scan 51 = .ok (.aload_n 1, 1) := by decide +kernel
theorem dX8_scan_52 : decode cX8_scan 52 = .ok (.iload_n 3, 1) := by decide +kernel
theorem dX8_scan_53 : decode cX8_scan 53 = .ok (.iload_n 2, 1) := by decide +kernel
theorem dX8_scan_54 : decode cX8_scan 54 = .ok (.invokestatic 39, 3) := by decide +kernel
theorem dX8_scan_57 : decode cX8_scan 57 = .ok (.istore 5, 2) := by decide +kernel
theorem dX8_scan_59 : decode cX8_scan 59 = .ok (.aload_n 0, 1) := by decide +kernel
theorem dX8_scan_60 : decode cX8_scan 60 = .ok (.aload_n 1, 1) := by decide +kernel
theorem dX8_scan_61 : decode cX8_scan 61 = .ok (.iload_n 3, 1) := by decide +kernel
theorem dX8_scan_62 : decode cX8_scan 62 = .ok (.iload 5, 2) := by decide +kernel
theorem dX8_scan_64 : decode cX8_scan 64 = .ok (.invokevirtual 43, 3) := by decide +kernel
theorem dX8_scan_67 : decode cX8_scan 67 = .ok (.iload 5, 2) := by decide +kernel
theorem dX8_scan_69 : decode cX8_scan 69 = .ok (.istore_n 3, 1) := by decide +kernel
theorem dX8_scan_70 : decode cX8_scan 70 = .ok (.iinc 4 1, 3) := by decide +kernel
theorem dX8_scan_73 : decode cX8_scan 73 = .ok (.goto (-48), 3) := by decide +kernel
theorem dX8_scan_76 : decode cX8_scan 76 = .ok (.aload_n 0, 1) := by decide +kernel
theorem dX8_scan_77 : decode cX8_scan 77 = .ok (.getfield 9, 3) := by decide +kernel
theorem dX8_scan_80 : decode cX8_scan 80 = .ok (.aload_n 0, 1) := by decide +kernel
theorem dX8_scan_81 : decode cX8_scan 81 = .ok (.getfield 32, 3) := by decide +kernel
theorem dX8_scan_84 : decode cX8_scan 84 = .ok (.iconst 0, 1) := by decide +kernel
theorem dX8_scan_85 : decode cX8_scan 85 = .ok (.iastore, 1) := by decide +kernel
theorem dX8_scan_86 : decode cX8_scan 86 = .ok (.aload_n 0, 1) := by decide +kernel
theorem dX8_scan_87 : decode cX8_scan 87 = .ok (.getfield 15, 3) := by decide +kernel
theorem dX8_scan_90 : decode cX8_scan 90 = .ok (.aload_n 0, 1) := by decide +kernel
theorem dX8_scan_91 : decode cX8_scan 91 = .ok (.getfield 32, 3) := by decide +kernel
theorem dX8_scan_94 : decode cX8_scan 94 = .ok (.iload_n 2, 1) := by decide +kernel
theorem dX8_scan_95 : decode cX8_scan 95 = .ok (.iastore, 1) := by decide +kernel
theorem dX8_scan_96 : decode cX8_scan 96 = .ok (.return_, 1) := by decide +kernel
theorem dX8_keep_0 : decode cX8_keep 0 = .ok (.aload_n 0, 1) := by decide +kernel
theorem dX8_keep_1 : decode cX8_keep 1 = .ok (.getfield 15, 3) := by decide +kernel
theorem dX8_keep_4 : decode cX8_keep 4 = .ok (.aload_n 0, 1) := by decide +kernel
theorem dX8_keep_5 : decode cX8_keep 5 = .ok (.getfield 32, 3) := by decide +kernel
theorem dX8_keep_8 : decode cX8_keep 8 = .ok (.iload_n 2, 1) := by decide +kernel
theorem dX8_keep_9 : decode cX8_keep 9 = .ok (.iastore, 1) := by decide +kernel
theorem dX8_keep_10 : decode cX8_keep 10 = .ok (.aload_n 1, 1) := by decide +kernel
theorem dX8_keep_11 : decode cX8_keep 11 = .ok (.iload_n 2, 1) := by decide +kernel
theorem dX8_keep_12 : decode cX8_keep 12 = .ok (.baload, 1) := by decide +kernel
theorem dX8_keep_13 : decode cX8_keep 13 = .ok (.invokestatic 47, 3) := by decide +kernel
theorem dX8_keep_16 : decode cX8_keep 16 = .ok (.ifCond .eq 13, 3) := by decide +kernel
theorem dX8_keep_19 : decode cX8_keep 19 = .ok (.aload_n 0, 1) := by decide +kernel
theorem dX8_keep_20 : decode cX8_keep 20 = .ok (.aload_n 1, 1) := by decide +kernel
theorem dX8_keep_21 : decode cX8_keep 21 = .ok (.iload_n 2, 1) := by decide +kernel
theorem dX8_keep_22 : decode cX8_keep 22 = .ok (.iload_n 3, 1) := by decide +kernel
theorem dX8_keep_23 : decode cX8_keep 23 = .ok (.invokevirtual 50, 3) := by decide +kernel
theorem dX8_keep_26 : decode cX8_keep 26 = .ok (.goto 65, 3) := by decide +kernel
theorem dX8_keep_29 : decode cX8_keep 29 = .ok (.aload_n 1, 1) := by decide +kernel
theorem dX8_keep_30 : decode cX8_keep 30 = .ok (.iload_n 2, 1) := by decide +kernel
theorem dX8_keep_31 : decode cX8_keep 31 = .ok (.baload, 1) := by decide +kernel
theorem dX8_keep_32 : decode cX8_keep 32 = .ok (.invokestatic 53, 3) := by decide +kernel
theorem dX8_keep_35 : decode cX8_keep 35 = .ok (.ifCond .eq 13, 3) := by decide +kernel
theorem dX8_keep_38 : decode cX8_keep 38 = .ok (.aload_n 0, 1) := by decide +kernel
theorem dX8_keep_39 : decode cX8_keep 39 = .ok (.aload_n 1, 1) := by decide +kernel
theorem dX8_keep_40 : decode cX8_keep 40 = .ok (.iload_n 2, 1) := by decide +kernel
theorem dX8_keep_41 : decode cX8_keep 41 = .ok (.iload_n 3, 1) := by decide +kernel
theorem dX8_keep_42 : decode cX8_keep 42 = .ok (.invokevirtual 56, 3) := by decide +kernel
theorem dX8_keep_45 : decode cX8_keep 45 = .ok (.goto 46, 3) := by decide +kernel
theorem dX8_keep_48 : decode cX8_keep 48 = .ok (.aload_n 0, 1) := by decide +kernel
theorem dX8_keep_49 : decode cX8_keep 49 = .ok (.getfield 18, 3) := by decide +kernel
theorem dX8_keep_52 : decode cX8_keep 52 = .ok (.aload_n 0, 1) := by decide +kernel
theorem dX8_keep_53 : decode cX8_keep 53 = .ok (.getfield 32, 3) := by decide +kernel
theorem dX8_keep_56 : decode cX8_keep 56 = .ok (.aload_n 1, 1) := by decide +kernel
theorem dX8_keep_57 : decode cX8_keep 57 = .ok (.iload_n 2, 1) := by decide +kernel
theorem dX8_keep_58 : decode cX8_keep 58 = .ok (.baload, 1) := by decide +kernel
theorem dX8_keep_59 : decode cX8_keep 59 = .ok (.i2l, 1) := by decide +kernel
theorem dX8_keep_60 : decode cX8_keep 60 = .ok (.lastore, 1) := by decide +kernel
theorem dX8_keep_61 : decode cX8_keep 61 = .ok (.aload_n 0, 1) := by decide +kernel
theorem dX8_keep_62 : decode cX8_keep 62 = .ok (.getfield 9, 3) := by decide +kernel
theorem dX8_keep_65 : decode cX8_keep 65 = .ok (.aload_n 0, 1) := by decide +kernel
theorem dX8_keep_66 : decode cX8_keep 66 = .ok (.getfield 32, 3) := by decide +kernel
theorem dX8_keep_69 : decode cX8_keep 69 = .ok (.ldc 59, 2) := by decide +kernel
theorem dX8_keep_71 : decode cX8_keep 71 = .ok (.aload_n 1, 1) := by decide +kernel
theorem dX8_keep_72 : decode cX8_keep 72 = .ok (.iload_n 2, 1) := by decide +kernel
theorem dX8_keep_73 : decode cX8_keep 73 = .ok (.baload, 1) := by decide +kernel
theorem dX8_keep_74 : decode cX8_keep 74 = .ok (.sipush 255, 3) := by decide +kernel
theorem dX8_keep_77 : decode cX8_keep 77 = .ok (.iand, 1) := by decide +kernel
theorem dX8_keep_78 : decode cX8_keep 78 = .ok (.i2c, 1) := by decide +kernel
theorem dX8_keep_79 : decode cX8_keep 79 = .ok (.invokevirtual 61, 3) := by decide +kernel
theorem dX8_keep_82 : decode cX8_keep 82 = .ok (.ifCond .lt 7, 3) := by decide +kernel
theorem dX8_keep_85 : decode cX8_keep 85 = .ok (.iconst 5, 1) := by decide +kernel
theorem dX8_keep_86 : decode cX8_keep 86 = .ok (.goto 4, 3) := by decide +kernel
theorem dX8_keep_89 : decode cX8_keep 89 = .ok (.iconst 1, 1) := by decide +kernel
theorem dX8_keep_90 : decode cX8_keep 90 = .ok (.iastore, 1) := by decide +kernel
theorem dX8_keep_91 : decode cX8_keep 91 = .ok (.aload_n 0, 1) := by decide +kernel
theorem dX8_keep_92 : decode cX8_keep 92 = .ok (.dup, 1) := by decide +kernel
theorem dX8_keep_93 : decode cX8_keep 93 = .ok (.getfield 32, 3) := by decide +kernel
theorem dX8_keep_96 : decode cX8_keep 96 = .ok (.iconst 1, 1) := by decide +kernel
theorem dX8_keep_97 : decode cX8_keep 97 = .ok (.iadd, 1) := by decide +kernel
theorem dX8_keep_98 : decode cX8_keep 98 = .ok (.putfield 32, 3) := by decide +kernel
theorem dX8_keep_101 : decode cX8_keep 101 = .ok (.return_, 1) := by decide +kernel
theorem dX8_keepWord_0 : decode cX8_keepWord 0 = .ok (.aload_n 0, 1) := by decide +kernel
theorem dX8_keepWord_1 : decode cX8_keepWord 1 = .ok (.getfield 9, 3) := by decide +kernel
theorem dX8_keepWord_4 : decode cX8_keepWord 4 = .ok (.aload_n 0, 1) := by decide +kernel
theorem dX8_keepWord_5 : decode cX8_keepWord 5 = .ok (.getfield 32, 3) := by decide +kernel
theorem dX8_keepWord_8 : decode cX8_keepWord 8 = .ok (.iconst 1, 1) := by decide +kernel
theorem dX8_keepWord_9 : decode cX8_keepWord 9 = .ok (.iastore, 1) := by decide +kernel
theorem dX8_keepWord_10 : decode cX8_keepWord 10 = .ok (.iload_n 3, 1) := by decide +kernel
theorem dX8_keepWord_11 : decode cX8_keepWord 11 = .ok (.iload_n 2, 1) := by decide +kernel
theorem dX8_keepWord_12 : decode cX8_keepWord 12 = .ok (.isub, 1) := by decide +kernel
theorem dX8_keepWord_13 : decode cX8_keepWord 13 = .ok (.bipush 8, 2) := by decide +kernel
theorem dX8_keepWord_15 : decode cX8_keepWord 15 = .ok (.if_icmp .le 4, 3) := by decide +kernel
theorem dX8_keepWord_18 : decode cX8_keepWord 18 = .ok (.return_, 1) := by decide +kernel
theorem dX8_keepWord_19 : decode cX8_keepWord 19 = .ok (.lconst 0, 1) := by decide +kernel
theorem dX8_keepWord_20 : decode cX8_keepWord 20 = .ok (.lstore 4, 2) := by decide +kernel
theorem dX8_keepWord_22 : decode cX8_keepWord 22 = .ok (.iload_n 2, 1) := by decide +kernel
theorem dX8_keepWord_23 : decode cX8_keepWord 23 = .ok (.istore 6, 2) := by decide +kernel
theorem dX8_keepWord_25 : decode cX8_keepWord 25 = .ok (.iload 6, 2) := by decide +kernel
theorem dX8_keepWord_27 : decode cX8_keepWord 27 = .ok (.iload_n 3, 1) := by decide +kernel
theorem dX8_keepWord_28 : decode cX8_keepWord 28 = .ok (.if_icmp .ge 22, 3) := by decide +kernel
theorem dX8_keepWord_31 : decode cX8_keepWord 31 = .ok (.lload 4, 2) := by decide +kernel
theorem dX8_keepWord_33 : decode cX8_keepWord 33 = .ok (.bipush 8, 2) := by decide +kernel
theorem dX8_keepWord_35 : decode cX8_keepWord 35 = .ok (.lshl, 1) := by decide +kernel
theorem dX8_keepWord_36 : decode cX8_keepWord 36 = .ok (.aload_n 1, 1) := by decide +kernel
theorem dX8_keepWord_37 : decode cX8_keepWord 37 = .ok (.iload 6, 2) := by decide +kernel
theorem dX8_keepWord_39 : decode cX8_keepWord 39 = .ok (.baload, 1) := by decide +kernel
theorem dX8_keepWord_40 : decode cX8_keepWord 40 = .ok (.i2l, 1) := by decide +kernel
theorem dX8_keepWord_41 : decode cX8_keepWord 41 = .ok (.lor, 1) := by decide +kernel
theorem dX8_keepWord_42 : decode cX8_keepWord 42 = .ok (.lstore 4, 2) := by decide +kernel
theorem dX8_keepWord_44 : decode cX8_keepWord 44 = .ok (.iinc 6 1, 3) := by decide +kernel
theorem dX8_keepWord_47 : decode cX8_keepWord 47 = .ok (.goto (-22), 3) := by decide +kernel
theorem dX8_keepWord_50 : decode cX8_keepWord 50 = .ok (.aload_n 0, 1) := by decide +kernel
theorem dX8_keepWord_51 : decode cX8_keepWord 51 = .ok (.getfield 18, 3) := by decide +kernel
theorem dX8_keepWord_54 : decode cX8_keepWord 54 = .ok (.aload_n 0, 1) := by decide +kernel
theorem dX8_keepWord_55 : decode cX8_keepWord 55 = .ok (.getfield 32, 3) := by decide +kernel
theorem dX8_keepWord_58 : decode cX8_keepWord 58 = .ok (.lload 4, 2) := by decide +kernel
theorem dX8_keepWord_60 : decode cX8_keepWord 60 = .ok (.lastore, 1) := by decide +kernel
theorem dX8_keepWord_61 : decode cX8_keepWord 61 = .ok (.aload_n 0, 1) := by decide +kernel
theorem dX8_keepWord_62 : decode cX8_keepWord 62 = .ok (.getfield 9, 3) := by decide +kernel
theorem dX8_keepWord_65 : decode cX8_keepWord 65 = .ok (.aload_n 0, 1) := by decide +kernel
theorem dX8_keepWord_66 : decode cX8_keepWord 66 = .ok (.getfield 32, 3) := by decide +kernel
theorem dX8_keepWord_69 : decode cX8_keepWord 69 = .ok (.lload 4, 2) := by decide +kernel
theorem dX8_keepWord_71 : decode cX8_keepWord 71 = .ok (.invokestatic 67, 3) := by decide +kernel
theorem dX8_keepWord_74 : decode cX8_keepWord 74 = .ok (.ifCond .eq 7, 3) := by decide +kernel
theorem dX8_keepWord_77 : decode cX8_keepWord 77 = .ok (.iconst 3, 1) := by decide +kernel
theorem dX8_keepWord_78 : decode cX8_keepWord 78 = .ok (.goto 4, 3) := by decide +kernel
theorem dX8_keepWord_81 : decode cX8_keepWord 81 = .ok (.iconst 2, 1) := by decide +kernel
theorem dX8_keepWord_82 : decode cX8_keepWord 82 = .ok (.iastore, 1) := by decide +kernel
theorem dX8_keepWord_83 : decode cX8_keepWord 83 = .ok (.return_, 1) := by decide +kernel
theorem dX8_keepNumber_0 : decode cX8_keepNumber 0 = .ok (.aload_n 0, 1) := by decide +kernel
theorem dX8_keepNumber_1 : decode cX8_keepNumber 1 = .ok (.getfield 9, 3) := by decide +kernel
theorem dX8_keepNumber_4 : decode cX8_keepNumber 4 = .ok (.aload_n 0, 1) := by decide +kernel
theorem dX8_keepNumber_5 : decode cX8_keepNumber 5 = .ok (.getfield 32, 3) := by decide +kernel
theorem dX8_keepNumber_8 : decode cX8_keepNumber 8 = .ok (.iconst 1, 1) := by decide +kernel
theorem dX8_keepNumber_9 : decode cX8_keepNumber 9 = .ok (.iastore, 1) := by decide +kernel
theorem dX8_keepNumber_10 : decode cX8_keepNumber 10 = .ok (.iload_n 3, 1) := by decide +kernel
theorem dX8_keepNumber_11 : decode cX8_keepNumber 11 = .ok (.iload_n 2, 1) := by decide +kernel
theorem dX8_keepNumber_12 : decode cX8_keepNumber 12 = .ok (.isub, 1) := by decide +kernel
theorem dX8_keepNumber_13 : decode cX8_keepNumber 13 = .ok (.bipush 6, 2) := by decide +kernel
theorem dX8_keepNumber_15 : decode cX8_keepNumber 15 = .ok (.if_icmp .le 4, 3) := by decide +kernel
theorem dX8_keepNumber_18 : decode cX8_keepNumber 18 = .ok (.return_, 1) := by decide +kernel
theorem dX8_keepNumber_19 : decode cX8_keepNumber 19 = .ok (.lconst 0, 1) := by decide +kernel
theorem dX8_keepNumber_20 : decode cX8_keepNumber 20 = .ok (.lstore 4, 2) := by decide +kernel
theorem dX8_keepNumber_22 : decode cX8_keepNumber 22 = .ok (.iload_n 2, 1) := by decide +kernel
theorem dX8_keepNumber_23 : decode cX8_keepNumber 23 = .ok (.istore 6, 2) := by decide +kernel
theorem dX8_keepNumber_25 : decode cX8_keepNumber 25 = .ok (.iload 6, 2) := by decide +kernel
theorem dX8_keepNumber_27 : decode cX8_keepNumber 27 = .ok (.iload_n 3, 1) := by decide +kernel
theorem dX8_keepNumber_28 : decode cX8_keepNumber 28 = .ok (.if_icmp .ge 26, 3) := by decide +kernel
theorem dX8_keepNumber_31 : decode cX8_keepNumber 31 = .ok (.lload 4, 2) := by decide +kernel
theorem dX8_keepNumber_33 : decode cX8_keepNumber 33 = .ok (.ldc2_w 71, 3) := by decide +kernel
theorem dX8_keepNumber_36 : decode cX8_keepNumber 36 = .ok (.lmul, 1) := by decide +kernel
theorem dX8_keepNumber_37 : decode cX8_keepNumber 37 = .ok (.aload_n 1, 1) := by decide +kernel
theorem dX8_keepNumber_38 : decode cX8_keepNumber 38 = .ok (.iload 6, 2) := by decide +kernel
theorem dX8_keepNumber_40 : decode cX8_keepNumber 40 = .ok (.baload, 1) := by decide +kernel
theorem dX8_keepNumber_41 : decode cX8_keepNumber 41 = .ok (.bipush 48, 2) := by decide +kernel
theorem dX8_keepNumber_43 : decode cX8_keepNumber 43 = .ok (.isub, 1) := by decide +kernel
theorem dX8_keepNumber_44 : decode cX8_keepNumber 44 = .ok (.i2l, 1) := by decide +kernel
theorem dX8_keepNumber_45 : decode cX8_keepNumber 45 = .ok (.ladd, 1) := by decide +kernel
theorem dX8_keepNumber_46 : decode cX8_keepNumber 46 = .ok (.lstore 4, 2) := by decide +kernel
theorem dX8_keepNumber_48 : decode cX8_keepNumber 48 = .ok (.iinc 6 1, 3) := by decide +kernel
theorem dX8_keepNumber_51 : decode cX8_keepNumber 51 = .ok (.goto (-26), 3) := by decide +kernel
theorem dX8_keepNumber_54 : decode cX8_keepNumber 54 = .ok (.aload_n 0, 1) := by decide +kernel
theorem dX8_keepNumber_55 : decode cX8_keepNumber 55 = .ok (.getfield 18, 3) := by decide +kernel
theorem dX8_keepNumber_58 : decode cX8_keepNumber 58 = .ok (.aload_n 0, 1) := by decide +kernel
theorem dX8_keepNumber_59 : decode cX8_keepNumber 59 = .ok (.getfield 32, 3) := by decide +kernel
theorem dX8_keepNumber_62 : decode cX8_keepNumber 62 = .ok (.lload 4, 2) := by decide +kernel
theorem dX8_keepNumber_64 : decode cX8_keepNumber 64 = .ok (.lastore, 1) := by decide +kernel
theorem dX8_keepNumber_65 : decode cX8_keepNumber 65 = .ok (.aload_n 0, 1) := by decide +kernel
theorem dX8_keepNumber_66 : decode cX8_keepNumber 66 = .ok (.getfield 9, 3) := by decide +kernel
theorem dX8_keepNumber_69 : decode cX8_keepNumber 69 = .ok (.aload_n 0, 1) := by decide +kernel
theorem dX8_keepNumber_70 : decode cX8_keepNumber 70 = .ok (.getfield 32, 3) := by decide +kernel
theorem dX8_keepNumber_73 : decode cX8_keepNumber 73 = .ok (.iconst 4, 1) := by decide +kernel
theorem dX8_keepNumber_74 : decode cX8_keepNumber 74 = .ok (.iastore, 1) := by decide +kernel
theorem dX8_keepNumber_75 : decode cX8_keepNumber 75 = .ok (.return_, 1) := by decide +kernel
theorem dX8_endOfToken_0 : decode cX8_endOfToken 0 = .ok (.iload_n 1, 1) := by decide +kernel
theorem dX8_endOfToken_1 : decode cX8_endOfToken 1 = .ok (.iconst 1, 1) := by decide +kernel
theorem dX8_endOfToken_2 : decode cX8_endOfToken 2 = .ok (.iadd, 1) := by decide +kernel
theorem dX8_endOfToken_3 : decode cX8_endOfToken 3 = .ok (.istore_n 3, 1) := by decide +kernel
theorem dX8_endOfToken_4 : decode cX8_endOfToken 4 = .ok (.aload_n 0, 1) := by decide +kernel
theorem dX8_endOfToken_5 : decode cX8_endOfToken 5 = .ok (.iload_n 1, 1) := by decide +kernel
theorem dX8_endOfToken_6 : decode cX8_endOfToken 6 = .ok (.baload, 1) := by decide +kernel
theorem dX8_endOfToken_7 : decode cX8_endOfToken 7 = .ok (.invokestatic 47, 3) := by decide +kernel
theorem dX8_endOfToken_10 : decode cX8_endOfToken 10 = .ok (.ifCond .eq 32, 3) := by decide +kernel
theorem dX8_endOfToken_13 : decode cX8_endOfToken 13 = .ok (.iload_n 3, 1) := by decide +kernel
theorem dX8_endOfToken_14 : decode cX8_endOfToken 14 = .ok (.iload_n 2, 1) := by decide +kernel
theorem dX8_endOfToken_15 : decode cX8_endOfToken 15 = .ok (.if_icmp .ge 56, 3) := by decide +kernel
theorem dX8_endOfToken_18 : decode cX8_endOfToken 18 = .ok (.aload_n 0, 1) := by decide +kernel
theorem dX8_endOfToken_19 : decode cX8_endOfToken 19 = .ok (.iload_n 3, 1) := by decide +kernel
theorem dX8_endOfToken_20 : decode cX8_endOfToken 20 = .ok (.baload, 1) := by decide +kernel
theorem dX8_endOfToken_21 : decode cX8_endOfToken 21 = .ok (.invokestatic 47, 3) := by decide +kernel
theorem dX8_endOfToken_24 : decode cX8_endOfToken 24 = .ok (.ifCond .ne 12, 3) := by decide +kernel
theorem dX8_endOfToken_27 : decode cX8_endOfToken 27 = .ok (.aload_n 0, 1) := by decide +kernel
theorem dX8_endOfToken_28 : decode cX8_endOfToken 28 = .ok (.iload_n 3, 1) := by decide +kernel
theorem dX8_endOfToken_29 : decode cX8_endOfToken 29 = .ok (.baload, 1) := by decide +kernel
theorem dX8_endOfToken_30 : decode cX8_endOfToken 30 = .ok (.invokestatic 53, 3) := by decide +kernel
theorem dX8_endOfToken_33 : decode cX8_endOfToken 33 = .ok (.ifCond .eq 38, 3) := by decide +kernel
theorem dX8_endOfToken_36 : decode cX8_endOfToken 36 = .ok (.iinc 3 1, 3) := by decide +kernel
theorem dX8_endOfToken_39 : decode cX8_endOfToken 39 = .ok (.goto (-26), 3) := by decide +kernel
theorem dX8_endOfToken_42 : decode cX8_endOfToken 42 = .ok (.aload_n 0, 1) := by decide +kernel
theorem dX8_endOfToken_43 : decode cX8_endOfToken 43 = .ok (.iload_n 1, 1) := by decide +kernel
theorem dX8_endOfToken_44 : decode cX8_endOfToken 44 = .ok (.baload, 1) := by decide +kernel
theorem dX8_endOfToken_45 : decode cX8_endOfToken 45 = .ok (.invokestatic 53, 3) := by decide +kernel
theorem dX8_endOfToken_48 : decode cX8_endOfToken 48 = .ok (.ifCond .eq 23, 3) := by decide +kernel
theorem dX8_endOfToken_51 : decode cX8_endOfToken 51 = .ok (.iload_n 3, 1) := by decide +kernel
theorem dX8_endOfToken_52 : decode cX8_endOfToken 52 = .ok (.iload_n 2, 1) := by decide +kernel
theorem dX8_endOfToken_53 : decode cX8_endOfToken 53 = .ok (.if_icmp .ge 18, 3) := by decide +kernel
theorem dX8_endOfToken_56 : decode cX8_endOfToken 56 = .ok (.aload_n 0, 1) := by decide +kernel
theorem dX8_endOfToken_57 : decode cX8_endOfToken 57 = .ok (.iload_n 3, 1) := by decide +kernel
theorem dX8_endOfToken_58 : decode cX8_endOfToken 58 = .ok (.baload, 1) := by decide +kernel
theorem dX8_endOfToken_59 : decode cX8_endOfToken 59 = .ok (.invokestatic 53, 3) := by decide +kernel
theorem dX8_endOfToken_62 : decode cX8_endOfToken 62 = .ok (.ifCond .eq 9, 3) := by decide +kernel
theorem dX8_endOfToken_65 : decode cX8_endOfToken 65 = .ok (.iinc 3 1, 3) := by decide +kernel
theorem dX8_endOfToken_68 : decode cX8_endOfToken 68 = .ok (.goto (-17), 3) := by decide +kernel
theorem dX8_endOfToken_71 : decode cX8_endOfToken 71 = .ok (.iload_n 3, 1) := by decide +kernel
theorem dX8_endOfToken_72 : decode cX8_endOfToken 72 = .ok (.ireturn, 1) := by decide +kernel
theorem dX8_isBlank_0 : decode cX8_isBlank 0 = .ok (.iload_n 0, 1) := by decide +kernel
theorem dX8_isBlank_1 : decode cX8_isBlank 1 = .ok (.bipush 9, 2) := by decide +kernel
theorem dX8_isBlank_3 : decode cX8_isBlank 3 = .ok (.if_icmp .eq 21, 3) := by decide +kernel
theorem dX8_isBlank_6 : decode cX8_isBlank 6 = .ok (.iload_n 0, 1) := by decide +kernel
theorem dX8_isBlank_7 : decode cX8_isBlank 7 = .ok (.bipush 10, 2) := by decide +kernel
theorem dX8_isBlank_9 : decode cX8_isBlank 9 = .ok (.if_icmp .eq 15, 3) := by decide +kernel
theorem dX8_isBlank_12 : decode cX8_isBlank 12 = .ok (.iload_n 0, 1) := by decide +kernel
theorem dX8_isBlank_13 : decode cX8_isBlank 13 = .ok (.bipush 13, 2) := by decide +kernel
theorem dX8_isBlank_15 : decode cX8_isBlank 15 = .ok (.if_icmp .eq 9, 3) := by decide +kernel
theorem dX8_isBlank_18 : decode cX8_isBlank 18 = .ok (.iload_n 0, 1) := by decide +kernel
theorem dX8_isBlank_19 : decode cX8_isBlank 19 = .ok (.bipush 32, 2) := by decide +kernel
theorem dX8_isBlank_21 : decode cX8_isBlank 21 = .ok (.if_icmp .ne 7, 3) := by decide +kernel
theorem dX8_isBlank_24 : decode cX8_isBlank 24 = .ok (.iconst 1, 1) := by decide +kernel
theorem dX8_isBlank_25 : decode cX8_isBlank 25 = .ok (.goto 4, 3) := by decide +kernel
theorem dX8_isBlank_28 : decode cX8_isBlank 28 = .ok (.iconst 0, 1) := by decide +kernel
theorem dX8_isBlank_29 : decode cX8_isBlank 29 = .ok (.ireturn, 1) := by decide +kernel
theorem dX8_isLetter_0 : decode cX8_isLetter 0 = .ok (.iload_n 0, 1) := by decide +kernel
theorem dX8_isLetter_1 : decode cX8_isLetter 1 = .ok (.bipush 97, 2) := by decide +kernel
theorem dX8_isLetter_3 : decode cX8_isLetter 3 = .ok (.if_icmp .lt 9, 3) := by decide +kernel
theorem dX8_isLetter_6 : decode cX8_isLetter 6 = .ok (.iload_n 0, 1) := by decide +kernel
theorem dX8_isLetter_7 : decode cX8_isLetter 7 = .ok (.bipush 122, 2) := by decide +kernel
theorem dX8_isLetter_9 : decode cX8_isLetter 9 = .ok (.if_icmp .le 15, 3) := by decide +kernel
theorem dX8_isLetter_12 : decode cX8_isLetter 12 = .ok (.iload_n 0, 1) := by decide +kernel
theorem dX8_isLetter_13 : decode cX8_isLetter 13 = .ok (.bipush 65, 2) := by decide +kernel
theorem dX8_isLetter_15 : decode cX8_isLetter 15 = .ok (.if_icmp .lt 13, 3) := by decide +kernel
theorem dX8_isLetter_18 : decode cX8_isLetter 18 = .ok (.iload_n 0, 1) := by decide +kernel
theorem dX8_isLetter_19 : decode cX8_isLetter 19 = .ok (.bipush 90, 2) := by decide +kernel
theorem dX8_isLetter_21 : decode cX8_isLetter 21 = .ok (.if_icmp .gt 7, 3) := by decide +kernel
theorem dX8_isLetter_24 : decode cX8_isLetter 24 = .ok (.iconst 1, 1) := by decide +kernel
theorem dX8_isLetter_25 : decode cX8_isLetter 25 = .ok (.goto 4, 3) := by decide +kernel
theorem dX8_isLetter_28 : decode cX8_isLetter 28 = .ok (.iconst 0, 1) := by decide +kernel
theorem dX8_isLetter_29 : decode cX8_isLetter 29 = .ok (.ireturn, 1) := by decide +kernel
theorem dX8_isDigit_0 : decode cX8_isDigit 0 = .ok (.iload_n 0, 1) := by decide +kernel
theorem dX8_isDigit_1 : decode cX8_isDigit 1 = .ok (.bipush 48, 2) := by decide +kernel
theorem dX8_isDigit_3 : decode cX8_isDigit 3 = .ok (.if_icmp .lt 13, 3) := by decide +kernel
theorem dX8_isDigit_6 : decode cX8_isDigit 6 = .ok (.iload_n 0, 1) := by decide +kernel
theorem dX8_isDigit_7 : decode cX8_isDigit 7 = .ok (.bipush 57, 2) := by decide +kernel
theorem dX8_isDigit_9 : decode cX8_isDigit 9 = .ok (.if_icmp .gt 7, 3) := by decide +kernel
theorem dX8_isDigit_12 : decode cX8_isDigit 12 = .ok (.iconst 1, 1) := by decide +kernel
theorem dX8_isDigit_13 : decode cX8_isDigit 13 = .ok (.goto 4, 3) := by decide +kernel
theorem dX8_isDigit_16 : decode cX8_isDigit 16 = .ok (.iconst 0, 1) := by decide +kernel
theorem dX8_isDigit_17 : decode cX8_isDigit 17 = .ok (.ireturn, 1) := by decide +kernel
theorem dX8_isKeyword_0 : decode cX8_isKeyword 0 = .ok (.iconst 0, 1) := by decide +kernel
theorem dX8_isKeyword_1 : decode cX8_isKeyword 1 = .ok (.istore_n 2, 1) := by decide +kernel
theorem dX8_isKeyword_2 : decode cX8_isKeyword 2 = .ok (.iload_n 2, 1) := by decide +kernel
theorem dX8_isKeyword_3 : decode cX8_isKeyword 3 = .ok (.getstatic 73, 3) := by decide +kernel
theorem dX8_isKeyword_6 : decode cX8_isKeyword 6 = .ok (.arraylength, 1) := by decide +kernel
theorem dX8_isKeyword_7 : decode cX8_isKeyword 7 = .ok (.if_icmp .ge 21, 3) := by decide +kernel
theorem dX8_isKeyword_10 : decode cX8_isKeyword 10 = .ok (.getstatic 73, 3) := by decide +kernel
theorem dX8_isKeyword_13 : decode cX8_isKeyword 13 = .ok (.iload_n 2, 1) := by decide +kernel
theorem dX8_isKeyword_14 : decode cX8_isKeyword 14 = .ok (.laload, 1) := by decide +kernel
theorem dX8_isKeyword_15 : decode cX8_isKeyword 15 = .ok (.lload_n 0, 1) := by decide +kernel
theorem dX8_isKeyword_16 : decode cX8_isKeyword 16 = .ok (.lcmp, 1) := by decide +kernel
theorem dX8_isKeyword_17 : decode cX8_isKeyword 17 = .ok (.ifCond .ne 5, 3) := by decide +kernel
theorem dX8_isKeyword_20 : decode cX8_isKeyword 20 = .ok (.iconst 1, 1) := by decide +kernel
theorem dX8_isKeyword_21 : decode cX8_isKeyword 21 = .ok (.ireturn, 1) := by decide +kernel
theorem dX8_isKeyword_22 : decode cX8_isKeyword 22 = .ok (.iinc 2 1, 3) := by decide +kernel
theorem dX8_isKeyword_25 : decode cX8_isKeyword 25 = .ok (.goto (-23), 3) := by decide +kernel
theorem dX8_isKeyword_28 : decode cX8_isKeyword 28 = .ok (.iconst 0, 1) := by decide +kernel
theorem dX8_isKeyword_29 : decode cX8_isKeyword 29 = .ok (.ireturn, 1) := by decide +kernel
theorem dX8_isEnd_0 : decode cX8_isEnd 0 = .ok (.aload_n 0, 1) := by decide +kernel
theorem dX8_isEnd_1 : decode cX8_isEnd 1 = .ok (.getfield 9, 3) := by decide +kernel
theorem dX8_isEnd_4 : decode cX8_isEnd 4 = .ok (.aload_n 0, 1) := by decide +kernel
theorem dX8_isEnd_5 : decode cX8_isEnd 5 = .ok (.getfield 29, 3) := by decide +kernel
theorem dX8_isEnd_8 : decode cX8_isEnd 8 = .ok (.iaload, 1) := by decide +kernel
theorem dX8_isEnd_9 : decode cX8_isEnd 9 = .ok (.ifCond .ne 7, 3) := by decide +kernel
theorem dX8_isEnd_12 : decode cX8_isEnd 12 = .ok (.iconst 1, 1) := by decide +kernel
theorem dX8_isEnd_13 : decode cX8_isEnd 13 = .ok (.goto 4, 3) := by decide +kernel
theorem dX8_isEnd_16 : decode cX8_isEnd 16 = .ok (.iconst 0, 1) := by decide +kernel
theorem dX8_isEnd_17 : decode cX8_isEnd 17 = .ok (.ireturn, 1) := by decide +kernel
theorem dX8_isName_0 : decode cX8_isName 0 = .ok (.aload_n 0, 1) := by decide +kernel
theorem dX8_isName_1 : decode cX8_isName 1 = .ok (.getfield 9, 3) := by decide +kernel
theorem dX8_isName_4 : decode cX8_isName 4 = .ok (.aload_n 0, 1) := by decide +kernel
theorem dX8_isName_5 : decode cX8_isName 5 = .ok (.getfield 29, 3) := by decide +kernel
theorem dX8_isName_8 : decode cX8_isName 8 = .ok (.iaload, 1) := by decide +kernel
theorem dX8_isName_9 : decode cX8_isName 9 = .ok (.iconst 2, 1) := by decide +kernel
theorem dX8_isName_10 : decode cX8_isName 10 = .ok (.if_icmp .ne 7, 3) := by decide +kernel
theorem dX8_isName_13 : decode cX8_isName 13 = .ok (.iconst 1, 1) := by decide +kernel
theorem dX8_isName_14 : decode cX8_isName 14 = .ok (.goto 4, 3) := by decide +kernel
theorem dX8_isName_17 : decode cX8_isName 17 = .ok (.iconst 0, 1) := by decide +kernel
theorem dX8_isName_18 : decode cX8_isName 18 = .ok (.ireturn, 1) := by decide +kernel
theorem dX8_isNumber_0 : decode cX8_isNumber 0 = .ok (.aload_n 0, 1) := by decide +kernel
theorem dX8_isNumber_1 : decode cX8_isNumber 1 = .ok (.getfield 9, 3) := by decide +kernel
theorem dX8_isNumber_4 : decode cX8_isNumber 4 = .ok (.aload_n 0, 1) := by decide +kernel
theorem dX8_isNumber_5 : decode cX8_isNumber 5 = .ok (.getfield 29, 3) := by decide +kernel
theorem dX8_isNumber_8 : decode cX8_isNumber 8 = .ok (.iaload, 1) := by decide +kernel
theorem dX8_isNumber_9 : decode cX8_isNumber 9 = .ok (.iconst 4, 1) := by decide +kernel
theorem dX8_isNumber_10 : decode cX8_isNumber 10 = .ok (.if_icmp .ne 7, 3) := by decide +kernel
theorem dX8_isNumber_13 : decode cX8_isNumber 13 = .ok (.iconst 1, 1) := by decide +kernel
theorem dX8_isNumber_14 : decode cX8_isNumber 14 = .ok (.goto 4, 3) := by decide +kernel
theorem dX8_isNumber_17 : decode cX8_isNumber 17 = .ok (.iconst 0, 1) := by decide +kernel
theorem dX8_isNumber_18 : decode cX8_isNumber 18 = .ok (.ireturn, 1) := by decide +kernel
theorem dX8_isAt_0 : decode cX8_isAt 0 = .ok (.aload_n 0, 1) := by decide +kernel
theorem dX8_isAt_1 : decode cX8_isAt 1 = .ok (.getfield 9, 3) := by decide +kernel
theorem dX8_isAt_4 : decode cX8_isAt 4 = .ok (.aload_n 0, 1) := by decide +kernel
theorem dX8_isAt_5 : decode cX8_isAt 5 = .ok (.getfield 29, 3) := by decide +kernel
theorem dX8_isAt_8 : decode cX8_isAt 8 = .ok (.iaload, 1) := by decide +kernel
theorem dX8_isAt_9 : decode cX8_isAt 9 = .ok (.iconst 3, 1) := by decide +kernel
theorem dX8_isAt_10 : decode cX8_isAt 10 = .ok (.if_icmp .eq 16, 3) := by decide +kernel
theorem dX8_isAt_13 : decode cX8_isAt 13 = .ok (.aload_n 0, 1) := by decide +kernel
theorem dX8_isAt_14 : decode cX8_isAt 14 = .ok (.getfield 9, 3) := by decide +kernel
theorem dX8_isAt_17 : decode cX8_isAt 17 = .ok (.aload_n 0, 1) := by decide +kernel
theorem dX8_isAt_18 : decode cX8_isAt 18 = .ok (.getfield 29, 3) := by decide +kernel
theorem dX8_isAt_21 : decode cX8_isAt 21 = .ok (.iaload, 1) := by decide +kernel
theorem dX8_isAt_22 : decode cX8_isAt 22 = .ok (.iconst 5, 1) := by decide +kernel
theorem dX8_isAt_23 : decode cX8_isAt 23 = .ok (.if_icmp .ne 21, 3) := by decide +kernel
theorem dX8_isAt_26 : decode cX8_isAt 26 = .ok (.aload_n 0, 1) := by decide +kernel
theorem dX8_isAt_27 : decode cX8_isAt 27 = .ok (.getfield 18, 3) := by decide +kernel
theorem dX8_isAt_30 : decode cX8_isAt 30 = .ok (.aload_n 0, 1) := by decide +kernel
theorem dX8_isAt_31 : decode cX8_isAt 31 = .ok (.getfield 29, 3) := by decide +kernel
theorem dX8_isAt_34 : decode cX8_isAt 34 = .ok (.laload, 1) := by decide +kernel
theorem dX8_isAt_35 : decode cX8_isAt 35 = .ok (.lload_n 1, 1) := by decide +kernel
theorem dX8_isAt_36 : decode cX8_isAt 36 = .ok (.lcmp, 1) := by decide +kernel
theorem dX8_isAt_37 : decode cX8_isAt 37 = .ok (.ifCond .ne 7, 3) := by decide +kernel
theorem dX8_isAt_40 : decode cX8_isAt 40 = .ok (.iconst 1, 1) := by decide +kernel
theorem dX8_isAt_41 : decode cX8_isAt 41 = .ok (.goto 4, 3) := by decide +kernel
theorem dX8_isAt_44 : decode cX8_isAt 44 = .ok (.iconst 0, 1) := by decide +kernel
theorem dX8_isAt_45 : decode cX8_isAt 45 = .ok (.ireturn, 1) := by decide +kernel
theorem dX8_isAhead_0 : decode cX8_isAhead 0 = .ok (.aload_n 0, 1) := by decide +kernel
theorem dX8_isAhead_1 : decode cX8_isAhead 1 = .ok (.getfield 29, 3) := by decide +kernel
theorem dX8_isAhead_4 : decode cX8_isAhead 4 = .ok (.aload_n 0, 1) := by decide +kernel
theorem dX8_isAhead_5 : decode cX8_isAhead 5 = .ok (.getfield 32, 3) := by decide +kernel
theorem dX8_isAhead_8 : decode cX8_isAhead 8 = .ok (.if_icmp .ge 38, 3) := by decide +kernel
theorem dX8_isAhead_11 : decode cX8_isAhead 11 = .ok (.aload_n 0, 1) := by decide +kernel
theorem dX8_isAhead_12 : decode cX8_isAhead 12 = .ok (.getfield 9, 3) := by decide +kernel
theorem dX8_isAhead_15 : decode cX8_isAhead 15 = .ok (.aload_n 0, 1) := by decide +kernel
theorem dX8_isAhead_16 : decode cX8_isAhead 16 = .ok (.getfield 29, 3) := by decide +kernel
theorem dX8_isAhead_19 : decode cX8_isAhead 19 = .ok (.iconst 1, 1) := by decide +kernel
theorem dX8_isAhead_20 : decode cX8_isAhead 20 = .ok (.iadd, 1) := by decide +kernel
theorem dX8_isAhead_21 : decode cX8_isAhead 21 = .ok (.iaload, 1) := by decide +kernel
theorem dX8_isAhead_22 : decode cX8_isAhead 22 = .ok (.iconst 5, 1) := by decide +kernel
theorem dX8_isAhead_23 : decode cX8_isAhead 23 = .ok (.if_icmp .ne 23, 3) := by decide +kernel
theorem dX8_isAhead_26 : decode cX8_isAhead 26 = .ok (.aload_n 0, 1) := by decide +kernel
theorem dX8_isAhead_27 : decode cX8_isAhead 27 = .ok (.getfield 18, 3) := by decide +kernel
theorem dX8_isAhead_30 : decode cX8_isAhead 30 = .ok (.aload_n 0, 1) := by decide +kernel
theorem dX8_isAhead_31 : decode cX8_isAhead 31 = .ok (.getfield 29, 3) := by decide +kernel
theorem dX8_isAhead_34 : decode cX8_isAhead 34 = .ok (.iconst 1, 1) := by decide +kernel
theorem dX8_isAhead_35 : decode cX8_isAhead 35 = .ok (.iadd, 1) := by decide +kernel
theorem dX8_isAhead_36 : decode cX8_isAhead 36 = .ok (.laload, 1) := by decide +kernel
theorem dX8_isAhead_37 : decode cX8_isAhead 37 = .ok (.lload_n 1, 1) := by decide +kernel
theorem dX8_isAhead_38 : decode cX8_isAhead 38 = .ok (.lcmp, 1) := by decide +kernel
theorem dX8_isAhead_39 : decode cX8_isAhead 39 = .ok (.ifCond .ne 7, 3) := by decide +kernel
theorem dX8_isAhead_42 : decode cX8_isAhead 42 = .ok (.iconst 1, 1) := by decide +kernel
theorem dX8_isAhead_43 : decode cX8_isAhead 43 = .ok (.goto 4, 3) := by decide +kernel
theorem dX8_isAhead_46 : decode cX8_isAhead 46 = .ok (.iconst 0, 1) := by decide +kernel
theorem dX8_isAhead_47 : decode cX8_isAhead 47 = .ok (.ireturn, 1) := by decide +kernel
theorem dX8_word_0 : decode cX8_word 0 = .ok (.aload_n 0, 1) := by decide +kernel
theorem dX8_word_1 : decode cX8_word 1 = .ok (.getfield 18, 3) := by decide +kernel
theorem dX8_word_4 : decode cX8_word 4 = .ok (.aload_n 0, 1) := by decide +kernel
theorem dX8_word_5 : decode cX8_word 5 = .ok (.getfield 29, 3) := by decide +kernel
theorem dX8_word_8 : decode cX8_word 8 = .ok (.laload, 1) := by decide +kernel
theorem dX8_word_9 : decode cX8_word 9 = .ok (.lreturn, 1) := by decide +kernel
theorem dX8_number_0 : decode cX8_number 0 = .ok (.aload_n 0, 1) := by decide +kernel
theorem dX8_number_1 : decode cX8_number 1 = .ok (.getfield 18, 3) := by decide +kernel
theorem dX8_number_4 : decode cX8_number 4 = .ok (.aload_n 0, 1) := by decide +kernel
theorem dX8_number_5 : decode cX8_number 5 = .ok (.getfield 29, 3) := by decide +kernel
theorem dX8_number_8 : decode cX8_number 8 = .ok (.laload, 1) := by decide +kernel
theorem dX8_number_9 : decode cX8_number 9 = .ok (.l2i, 1) := by decide +kernel
theorem dX8_number_10 : decode cX8_number 10 = .ok (.ireturn, 1) := by decide +kernel
theorem dX8_placeNow_0 : decode cX8_placeNow 0 = .ok (.aload_n 0, 1) := by decide +kernel
theorem dX8_placeNow_1 : decode cX8_placeNow 1 = .ok (.getfield 15, 3) := by decide +kernel
theorem dX8_placeNow_4 : decode cX8_placeNow 4 = .ok (.aload_n 0, 1) := by decide +kernel
theorem dX8_placeNow_5 : decode cX8_placeNow 5 = .ok (.getfield 29, 3) := by decide +kernel
theorem dX8_placeNow_8 : decode cX8_placeNow 8 = .ok (.iaload, 1) := by decide +kernel
theorem dX8_placeNow_9 : decode cX8_placeNow 9 = .ok (.ireturn, 1) := by decide +kernel
theorem dX8_pass_0 : decode cX8_pass 0 = .ok (.aload_n 0, 1) := by decide +kernel
theorem dX8_pass_1 : decode cX8_pass 1 = .ok (.getfield 29, 3) := by decide +kernel
theorem dX8_pass_4 : decode cX8_pass 4 = .ok (.aload_n 0, 1) := by decide +kernel
theorem dX8_pass_5 : decode cX8_pass 5 = .ok (.getfield 32, 3) := by decide +kernel
theorem dX8_pass_8 : decode cX8_pass 8 = .ok (.if_icmp .ge 13, 3) := by decide +kernel
theorem dX8_pass_11 : decode cX8_pass 11 = .ok (.aload_n 0, 1) := by decide +kernel
theorem dX8_pass_12 : decode cX8_pass 12 = .ok (.dup, 1) := by decide +kernel
theorem dX8_pass_13 : decode cX8_pass 13 = .ok (.getfield 29, 3) := by decide +kernel
theorem dX8_pass_16 : decode cX8_pass 16 = .ok (.iconst 1, 1) := by decide +kernel
theorem dX8_pass_17 : decode cX8_pass 17 = .ok (.iadd, 1) := by decide +kernel
theorem dX8_pass_18 : decode cX8_pass 18 = .ok (.putfield 29, 3) := by decide +kernel
theorem dX8_pass_21 : decode cX8_pass 21 = .ok (.return_, 1) := by decide +kernel
theorem dX8_takes_0 : decode cX8_takes 0 = .ok (.aload_n 0, 1) := by decide +kernel
theorem dX8_takes_1 : decode cX8_takes 1 = .ok (.getfield 9, 3) := by decide +kernel
theorem dX8_takes_4 : decode cX8_takes 4 = .ok (.aload_n 0, 1) := by decide +kernel
theorem dX8_takes_5 : decode cX8_takes 5 = .ok (.getfield 29, 3) := by decide +kernel
theorem dX8_takes_8 : decode cX8_takes 8 = .ok (.iaload, 1) := by decide +kernel
theorem dX8_takes_9 : decode cX8_takes 9 = .ok (.iconst 3, 1) := by decide +kernel
theorem dX8_takes_10 : decode cX8_takes 10 = .ok (.if_icmp .eq 16, 3) := by decide +kernel
theorem dX8_takes_13 : decode cX8_takes 13 = .ok (.aload_n 0, 1) := by decide +kernel
theorem dX8_takes_14 : decode cX8_takes 14 = .ok (.getfield 9, 3) := by decide +kernel
theorem dX8_takes_17 : decode cX8_takes 17 = .ok (.aload_n 0, 1) := by decide +kernel
theorem dX8_takes_18 : decode cX8_takes 18 = .ok (.getfield 29, 3) := by decide +kernel
theorem dX8_takes_21 : decode cX8_takes 21 = .ok (.iaload, 1) := by decide +kernel
theorem dX8_takes_22 : decode cX8_takes 22 = .ok (.iconst 5, 1) := by decide +kernel
theorem dX8_takes_23 : decode cX8_takes 23 = .ok (.if_icmp .ne 21, 3) := by decide +kernel
theorem dX8_takes_26 : decode cX8_takes 26 = .ok (.aload_n 0, 1) := by decide +kernel
theorem dX8_takes_27 : decode cX8_takes 27 = .ok (.getfield 18, 3) := by decide +kernel
theorem dX8_takes_30 : decode cX8_takes 30 = .ok (.aload_n 0, 1) := by decide +kernel
theorem dX8_takes_31 : decode cX8_takes 31 = .ok (.getfield 29, 3) := by decide +kernel
theorem dX8_takes_34 : decode cX8_takes 34 = .ok (.laload, 1) := by decide +kernel
theorem dX8_takes_35 : decode cX8_takes 35 = .ok (.lload_n 1, 1) := by decide +kernel
theorem dX8_takes_36 : decode cX8_takes 36 = .ok (.lcmp, 1) := by decide +kernel
theorem dX8_takes_37 : decode cX8_takes 37 = .ok (.ifCond .ne 7, 3) := by decide +kernel
theorem dX8_takes_40 : decode cX8_takes 40 = .ok (.iconst 1, 1) := by decide +kernel
theorem dX8_takes_41 : decode cX8_takes 41 = .ok (.goto 4, 3) := by decide +kernel
theorem dX8_takes_44 : decode cX8_takes 44 = .ok (.iconst 0, 1) := by decide +kernel
theorem dX8_takes_45 : decode cX8_takes 45 = .ok (.istore_n 3, 1) := by decide +kernel
theorem dX8_takes_46 : decode cX8_takes 46 = .ok (.iload_n 3, 1) := by decide +kernel
theorem dX8_takes_47 : decode cX8_takes 47 = .ok (.ifCond .eq 24, 3) := by decide +kernel
theorem dX8_takes_50 : decode cX8_takes 50 = .ok (.aload_n 0, 1) := by decide +kernel
theorem dX8_takes_51 : decode cX8_takes 51 = .ok (.getfield 29, 3) := by decide +kernel
theorem dX8_takes_54 : decode cX8_takes 54 = .ok (.aload_n 0, 1) := by decide +kernel
theorem dX8_takes_55 : decode cX8_takes 55 = .ok (.getfield 32, 3) := by decide +kernel
theorem dX8_takes_58 : decode cX8_takes 58 = .ok (.if_icmp .ge 13, 3) := by decide +kernel
theorem dX8_takes_61 : decode cX8_takes 61 = .ok (.aload_n 0, 1) := by decide +kernel
theorem dX8_takes_62 : decode cX8_takes 62 = .ok (.dup, 1) := by decide +kernel
theorem dX8_takes_63 : decode cX8_takes 63 = .ok (.getfield 29, 3) := by decide +kernel
theorem dX8_takes_66 : decode cX8_takes 66 = .ok (.iconst 1, 1) := by decide +kernel
theorem dX8_takes_67 : decode cX8_takes 67 = .ok (.iadd, 1) := by decide +kernel
theorem dX8_takes_68 : decode cX8_takes 68 = .ok (.putfield 29, 3) := by decide +kernel
theorem dX8_takes_71 : decode cX8_takes 71 = .ok (.iload_n 3, 1) := by decide +kernel
theorem dX8_takes_72 : decode cX8_takes 72 = .ok (.ireturn, 1) := by decide +kernel
theorem dX8_expects_0 : decode cX8_expects 0 = .ok (.aload_n 0, 1) := by decide +kernel
theorem dX8_expects_1 : decode cX8_expects 1 = .ok (.lload_n 1, 1) := by decide +kernel
theorem dX8_expects_2 : decode cX8_expects 2 = .ok (.invokevirtual 76, 3) := by decide +kernel
theorem dX8_expects_5 : decode cX8_expects 5 = .ok (.ifCond .ne 10, 3) := by decide +kernel
theorem dX8_expects_8 : decode cX8_expects 8 = .ok (.aload_n 0, 1) := by decide +kernel
theorem dX8_expects_9 : decode cX8_expects 9 = .ok (.invokevirtual 79, 3) := by decide +kernel
theorem dX8_expects_12 : decode cX8_expects 12 = .ok (.ifCond .eq 7, 3) := by decide +kernel
theorem dX8_expects_15 : decode cX8_expects 15 = .ok (.iconst 1, 1) := by decide +kernel
theorem dX8_expects_16 : decode cX8_expects 16 = .ok (.goto 4, 3) := by decide +kernel
theorem dX8_expects_19 : decode cX8_expects 19 = .ok (.iconst 0, 1) := by decide +kernel
theorem dX8_expects_20 : decode cX8_expects 20 = .ok (.ireturn, 1) := by decide +kernel
theorem dX8_misplaced_0 : decode cX8_misplaced 0 = .ok (.aload_n 0, 1) := by decide +kernel
theorem dX8_misplaced_1 : decode cX8_misplaced 1 = .ok (.aload_n 0, 1) := by decide +kernel
theorem dX8_misplaced_2 : decode cX8_misplaced 2 = .ok (.getfield 9, 3) := by decide +kernel
theorem dX8_misplaced_5 : decode cX8_misplaced 5 = .ok (.aload_n 0, 1) := by decide +kernel
theorem dX8_misplaced_6 : decode cX8_misplaced 6 = .ok (.getfield 29, 3) := by decide +kernel
theorem dX8_misplaced_9 : decode cX8_misplaced 9 = .ok (.iaload, 1) := by decide +kernel
theorem dX8_misplaced_10 : decode cX8_misplaced 10 = .ok (.iconst 1, 1) := by decide +kernel
theorem dX8_misplaced_11 : decode cX8_misplaced 11 = .ok (.if_icmp .ne 7, 3) := by decide +kernel
theorem dX8_misplaced_14 : decode cX8_misplaced 14 = .ok (.iconst 1, 1) := by decide +kernel
theorem dX8_misplaced_15 : decode cX8_misplaced 15 = .ok (.goto 4, 3) := by decide +kernel
theorem dX8_misplaced_18 : decode cX8_misplaced 18 = .ok (.iconst 2, 1) := by decide +kernel
theorem dX8_misplaced_19 : decode cX8_misplaced 19 = .ok (.putfield 26, 3) := by decide +kernel
theorem dX8_misplaced_22 : decode cX8_misplaced 22 = .ok (.aload_n 0, 1) := by decide +kernel
theorem dX8_misplaced_23 : decode cX8_misplaced 23 = .ok (.aload_n 0, 1) := by decide +kernel
theorem dX8_misplaced_24 : decode cX8_misplaced 24 = .ok (.getfield 15, 3) := by decide +kernel
theorem dX8_misplaced_27 : decode cX8_misplaced 27 = .ok (.aload_n 0, 1) := by decide +kernel
theorem dX8_misplaced_28 : decode cX8_misplaced 28 = .ok (.getfield 29, 3) := by decide +kernel
theorem dX8_misplaced_31 : decode cX8_misplaced 31 = .ok (.iaload, 1) := by decide +kernel
theorem dX8_misplaced_32 : decode cX8_misplaced 32 = .ok (.putfield 22, 3) := by decide +kernel
theorem dX8_misplaced_35 : decode cX8_misplaced 35 = .ok (.iconst 0, 1) := by decide +kernel
theorem dX8_misplaced_36 : decode cX8_misplaced 36 = .ok (.ireturn, 1) := by decide +kernel
theorem dX8_refuse_0 : decode cX8_refuse 0 = .ok (.aload_n 0, 1) := by decide +kernel
theorem dX8_refuse_1 : decode cX8_refuse 1 = .ok (.iload_n 1, 1) := by decide +kernel
theorem dX8_refuse_2 : decode cX8_refuse 2 = .ok (.aload_n 0, 1) := by decide +kernel
theorem dX8_refuse_3 : decode cX8_refuse 3 = .ok (.getfield 15, 3) := by decide +kernel
theorem dX8_refuse_6 : decode cX8_refuse 6 = .ok (.aload_n 0, 1) := by decide +kernel
theorem dX8_refuse_7 : decode cX8_refuse 7 = .ok (.getfield 29, 3) := by decide +kernel
theorem dX8_refuse_10 : decode cX8_refuse 10 = .ok (.iaload, 1) := by decide +kernel
theorem dX8_refuse_11 : decode cX8_refuse 11 = .ok (.invokevirtual 83, 3) := by decide +kernel
theorem dX8_refuse_14 : decode cX8_refuse 14 = .ok (.ireturn, 1) := by decide +kernel
theorem dX8_refuseAt_0 : decode cX8_refuseAt 0 = .ok (.aload_n 0, 1) := by decide +kernel
theorem dX8_refuseAt_1 : decode cX8_refuseAt 1 = .ok (.iload_n 1, 1) := by decide +kernel
theorem dX8_refuseAt_2 : decode cX8_refuseAt 2 = .ok (.putfield 26, 3) := by decide +kernel
theorem dX8_refuseAt_5 : decode cX8_refuseAt 5 = .ok (.aload_n 0, 1) := by decide +kernel
theorem dX8_refuseAt_6 : decode cX8_refuseAt 6 = .ok (.iload_n 2, 1) := by decide +kernel
theorem dX8_refuseAt_7 : decode cX8_refuseAt 7 = .ok (.putfield 22, 3) := by decide +kernel
theorem dX8_refuseAt_10 : decode cX8_refuseAt 10 = .ok (.iconst 0, 1) := by decide +kernel
theorem dX8_refuseAt_11 : decode cX8_refuseAt 11 = .ok (.ireturn, 1) := by decide +kernel
theorem dX9_init_0 : decode cX9_init 0 = .ok (.aload_n 0, 1) := by decide +kernel
theorem dX9_init_1 : decode cX9_init 1 = .ok (.invokespecial 3, 3) := by decide +kernel
theorem dX9_init_4 : decode cX9_init 4 = .ok (.aload_n 0, 1) := by decide +kernel
theorem dX9_init_5 : decode cX9_init 5 = .ok (.bipush 60, 2) := by decide +kernel
theorem dX9_init_7 : decode cX9_init 7 = .ok (.anewarray 9, 3) := by decide +kernel
theorem dX9_init_10 : decode cX9_init 10 = .ok (.putfield 11, 3) := by decide +kernel
theorem dX9_init_13 : decode cX9_init 13 = .ok (.aload_n 0, 1) := by decide +kernel
theorem dX9_init_14 : decode cX9_init 14 = .ok (.bipush 60, 2) := by decide +kernel
theorem dX9_init_16 : decode cX9_init 16 = .ok (.anewarray 9, 3) := by decide +kernel
theorem dX9_init_19 : decode cX9_init 19 = .ok (.putfield 17, 3) := by decide +kernel
theorem dX9_init_22 : decode cX9_init 22 = .ok (.aload_n 0, 1) := by decide +kernel
theorem dX9_init_23 : decode cX9_init 23 = .ok (.bipush 120, 2) := by decide +kernel
theorem dX9_init_25 : decode cX9_init 25 = .ok (.newarray .int, 2) := by decide +kernel
theorem dX9_init_27 : decode cX9_init 27 = .ok (.putfield 20, 3) := by decide +kernel
theorem dX9_init_30 : decode cX9_init 30 = .ok (.aload_n 0, 1) := by decide +kernel
theorem dX9_init_31 : decode cX9_init 31 = .ok (.aload_n 2, 1) := by decide +kernel
theorem dX9_init_32 : decode cX9_init 32 = .ok (.putfield 24, 3) := by decide +kernel
theorem dX9_init_35 : decode cX9_init 35 = .ok (.iconst 0, 1) := by decide +kernel
theorem dX9_init_36 : decode cX9_init 36 = .ok (.istore_n 3, 1) := by decide +kernel
theorem dX9_init_37 : decode cX9_init 37 = .ok (.iload_n 3, 1) := by decide +kernel
theorem dX9_init_38 : decode cX9_init 38 = .ok (.bipush 60, 2) := by decide +kernel
theorem dX9_init_40 : decode cX9_init 40 = .ok (.if_icmp .ge 28, 3) := by decide +kernel
theorem dX9_init_43 : decode cX9_init 43 = .ok (.aload_n 0, 1) := by decide +kernel
theorem dX9_init_44 : decode cX9_init 44 = .ok (.getfield 11, 3) := by decide +kernel
theorem dX9_init_47 : decode cX9_init 47 = .ok (.iload_n 3, 1) := by decide +kernel
theorem dX9_init_48 : decode cX9_init 48 = .ok (.new 9, 3) := by decide +kernel
theorem dX9_init_51 : decode cX9_init 51 = .ok (.dup, 1) := by decide +kernel
theorem dX9_init_52 : decode cX9_init 52 = .ok (.iload_n 1, 1) := by decide +kernel
theorem dX9_init_53 : decode cX9_init 53 = .ok (.bipush 100, 2) := by decide +kernel
theorem dX9_init_55 : decode cX9_init 55 = .ok (.imul, 1) := by decide +kernel
theorem dX9_init_56 : decode cX9_init 56 = .ok (.iload_n 3, 1) := by decide +kernel
theorem dX9_init_57 : decode cX9_init 57 = .ok (.iadd, 1) := by decide +kernel
theorem dX9_init_58 : decode cX9_init 58 = .ok (.invokespecial 28, 3) := by decide +kernel
theorem dX9_init_61 : decode cX9_init 61 = .ok (.aastore, 1) := by decide +kernel
theorem dX9_init_62 : decode cX9_init 62 = .ok (.iinc 3 1, 3) := by decide +kernel
theorem dX9_init_65 : decode cX9_init 65 = .ok (.goto (-28), 3) := by decide +kernel
theorem dX9_init_68 : decode cX9_init 68 = .ok (.return_, 1) := by decide +kernel
theorem dX9_begin_0 : decode cX9_begin 0 = .ok (.aload_n 0, 1) := by decide +kernel
theorem dX9_begin_1 : decode cX9_begin 1 = .ok (.iconst 1, 1) := by decide +kernel
theorem dX9_begin_2 : decode cX9_begin 2 = .ok (.putfield 31, 3) := by decide +kernel
theorem dX9_begin_5 : decode cX9_begin 5 = .ok (.aload_n 0, 1) := by decide +kernel
theorem dX9_begin_6 : decode cX9_begin 6 = .ok (.iconst 0, 1) := by decide +kernel
theorem dX9_begin_7 : decode cX9_begin 7 = .ok (.putfield 35, 3) := by decide +kernel
theorem dX9_begin_10 : decode cX9_begin 10 = .ok (.aload_n 0, 1) := by decide +kernel
theorem dX9_begin_11 : decode cX9_begin 11 = .ok (.iconst 0, 1) := by decide +kernel
theorem dX9_begin_12 : decode cX9_begin 12 = .ok (.putfield 39, 3) := by decide +kernel
theorem dX9_begin_15 : decode cX9_begin 15 = .ok (.return_, 1) := by decide +kernel
theorem dX9_thingAt_0 : decode cX9_thingAt 0 = .ok (.iload_n 1, 1) := by decide +kernel
theorem dX9_thingAt_1 : decode cX9_thingAt 1 = .ok (.ifCond .lt 11, 3) := by decide +kernel
theorem dX9_thingAt_4 : decode cX9_thingAt 4 = .ok (.iload_n 1, 1) := by decide +kernel
theorem dX9_thingAt_5 : decode cX9_thingAt 5 = .ok (.aload_n 0, 1) := by decide +kernel
theorem dX9_thingAt_6 : decode cX9_thingAt 6 = .ok (.getfield 35, 3) := by decide +kernel
theorem dX9_thingAt_9 : decode cX9_thingAt 9 = .ok (.if_icmp .lt 7, 3) := by decide +kernel
theorem dX9_thingAt_12 : decode cX9_thingAt 12 = .ok (.aconst_null, 1) := by decide +kernel
theorem dX9_thingAt_13 : decode cX9_thingAt 13 = .ok (.goto 9, 3) := by decide +kernel
theorem dX9_thingAt_16 : decode cX9_thingAt 16 = .ok (.aload_n 0, 1) := by decide +kernel
theorem dX9_thingAt_17 : decode cX9_thingAt 17 = .ok (.getfield 11, 3) := by decide +kernel
theorem dX9_thingAt_20 : decode cX9_thingAt 20 = .ok (.iload_n 1, 1) := by decide +kernel
theorem dX9_thingAt_21 : decode cX9_thingAt 21 = .ok (.aaload, 1) := by decide +kernel
theorem dX9_thingAt_22 : decode cX9_thingAt 22 = .ok (.areturn, 1) := by decide +kernel
theorem dX9_thingFor_0 : decode cX9_thingFor 0 = .ok (.iconst 0, 1) := by decide +kernel
theorem dX9_thingFor_1 : decode cX9_thingFor 1 = .ok (.istore_n 3, 1) := by decide +kernel
theorem dX9_thingFor_2 : decode cX9_thingFor 2 = .ok (.iload_n 3, 1) := by decide +kernel
theorem dX9_thingFor_3 : decode cX9_thingFor 3 = .ok (.aload_n 0, 1) := by decide +kernel
theorem dX9_thingFor_4 : decode cX9_thingFor 4 = .ok (.getfield 35, 3) := by decide +kernel
theorem dX9_thingFor_7 : decode cX9_thingFor 7 = .ok (.if_icmp .ge 42, 3) := by decide +kernel
theorem dX9_thingFor_10 : decode cX9_thingFor 10 = .ok (.aload_n 0, 1) := by decide +kernel
theorem dX9_thingFor_11 : decode cX9_thingFor 11 = .ok (.getfield 11, 3) := by decide +kernel
theorem dX9_thingFor_14 : decode cX9_thingFor 14 = .ok (.iload_n 3, 1) := by decide +kernel
theorem dX9_thingFor_15 : decode cX9_thingFor 15 = .ok (.aaload, 1) := by decide +kernel
theorem dX9_thingFor_16 : decode cX9_thingFor 16 = .ok (.getfield 42, 3) := by decide +kernel
theorem dX9_thingFor_19 : decode cX9_thingFor 19 = .ok (.iload_n 2, 1) := by decide +kernel
theorem dX9_thingFor_20 : decode cX9_thingFor 20 = .ok (.if_icmp .ne 23, 3) := by decide +kernel
theorem dX9_thingFor_23 : decode cX9_thingFor 23 = .ok (.aload_n 0, 1) := by decide +kernel
theorem dX9_thingFor_24 : decode cX9_thingFor 24 = .ok (.getfield 11, 3) := by decide +kernel
theorem dX9_thingFor_27 : decode cX9_thingFor 27 = .ok (.iload_n 3, 1) := by decide +kernel
theorem dX9_thingFor_28 : decode cX9_thingFor 28 = .ok (.aaload, 1) := by decide +kernel
theorem dX9_thingFor_29 : decode cX9_thingFor 29 = .ok (.getfield 45, 3) := by decide +kernel
theorem dX9_thingFor_32 : decode cX9_thingFor 32 = .ok (.iload_n 1, 1) := by decide +kernel
theorem dX9_thingFor_33 : decode cX9_thingFor 33 = .ok (.if_icmp .ne 10, 3) := by decide +kernel
theorem dX9_thingFor_36 : decode cX9_thingFor 36 = .ok (.aload_n 0, 1) := by decide +kernel
theorem dX9_thingFor_37 : decode cX9_thingFor 37 = .ok (.getfield 11, 3) := by decide +kernel
theorem dX9_thingFor_40 : decode cX9_thingFor 40 = .ok (.iload_n 3, 1) := by decide +kernel
theorem dX9_thingFor_41 : decode cX9_thingFor 41 = .ok (.aaload, 1) := by decide +kernel
theorem dX9_thingFor_42 : decode cX9_thingFor 42 = .ok (.areturn, 1) := by decide +kernel
theorem dX9_thingFor_43 : decode cX9_thingFor 43 = .ok (.iinc 3 1, 3) := by decide +kernel
theorem dX9_thingFor_46 : decode cX9_thingFor 46 = .ok (.goto (-44), 3) := by decide +kernel
theorem dX9_thingFor_49 : decode cX9_thingFor 49 = .ok (.aconst_null, 1) := by decide +kernel
theorem dX9_thingFor_50 : decode cX9_thingFor 50 = .ok (.areturn, 1) := by decide +kernel
theorem dX9_comes_0 : decode cX9_comes 0 = .ok (.aload_n 0, 1) := by decide +kernel
theorem dX9_comes_1 : decode cX9_comes 1 = .ok (.getfield 35, 3) := by decide +kernel
theorem dX9_comes_4 : decode cX9_comes 4 = .ok (.bipush 60, 2) := by decide +kernel
theorem dX9_comes_6 : decode cX9_comes 6 = .ok (.if_icmp .lt 5, 3) := by decide +kernel
theorem dX9_comes_9 : decode cX9_comes 9 = .ok (.aconst_null, 1) := by decide +kernel
theorem dX9_comes_10 : decode cX9_comes 10 = .ok (.areturn, 1) := by decide +kernel
theorem dX9_comes_11 : decode cX9_comes 11 = .ok (.aload_n 0, 1) := by decide +kernel
theorem dX9_comes_12 : decode cX9_comes 12 = .ok (.getfield 11, 3) := by decide +kernel
theorem dX9_comes_15 : decode cX9_comes 15 = .ok (.aload_n 0, 1) := by decide +kernel
theorem dX9_comes_16 : decode cX9_comes 16 = .ok (.getfield 35, 3) := by decide +kernel
theorem dX9_comes_19 : decode cX9_comes 19 = .ok (.aaload, 1) := by decide +kernel
theorem dX9_comes_20 : decode cX9_comes 20 = .ok (.astore 4, 2) := by decide +kernel
theorem dX9_comes_22 : decode cX9_comes 22 = .ok (.aload_n 0, 1) := by decide +kernel
theorem dX9_comes_23 : decode cX9_comes 23 = .ok (.dup, 1) := by decide +kernel
theorem dX9_comes_24 : decode cX9_comes 24 = .ok (.getfield 35, 3) := by decide +kernel
theorem dX9_comes_27 : decode cX9_comes 27 = .ok (.iconst 1, 1) := by decide +kernel
theorem dX9_comes_28 : decode cX9_comes 28 = .ok (.iadd, 1) := by decide +kernel
theorem dX9_comes_29 : decode cX9_comes 29 = .ok (.putfield 35, 3) := by decide +kernel
theorem dX9_comes_32 : decode cX9_comes 32 = .ok (.aload 4, 2) := by decide +kernel
theorem dX9_comes_34 : decode cX9_comes 34 = .ok (.iload_n 1, 1) := by decide +kernel
theorem dX9_comes_35 : decode cX9_comes 35 = .ok (.iload_n 2, 1) := by decide +kernel
theorem dX9_comes_36 : decode cX9_comes 36 = .ok (.iload_n 3, 1) := by decide +kernel
theorem dX9_comes_37 : decode cX9_comes 37 = .ok (.invokevirtual 48, 3) := by decide +kernel
theorem dX9_comes_40 : decode cX9_comes 40 = .ok (.aload 4, 2) := by decide +kernel
theorem dX9_comes_42 : decode cX9_comes 42 = .ok (.areturn, 1) := by decide +kernel
theorem dX9_meet_0 : decode cX9_meet 0 = .ok (.aload_n 0, 1) := by decide +kernel
theorem dX9_meet_1 : decode cX9_meet 1 = .ok (.iload_n 1, 1) := by decide +kernel
theorem dX9_meet_2 : decode cX9_meet 2 = .ok (.iload_n 2, 1) := by decide +kernel
theorem dX9_meet_3 : decode cX9_meet 3 = .ok (.invokevirtual 52, 3) := by decide +kernel
theorem dX9_meet_6 : decode cX9_meet 6 = .ok (.astore_n 3, 1) := by decide +kernel
theorem dX9_meet_7 : decode cX9_meet 7 = .ok (.aload_n 3, 1) := by decide +kernel
theorem dX9_meet_8 : decode cX9_meet 8 = .ok (.ifnull 7, 3) := by decide +kernel
theorem dX9_meet_11 : decode cX9_meet 11 = .ok (.aload_n 3, 1) := by decide +kernel
theorem dX9_meet_12 : decode cX9_meet 12 = .ok (.goto 10, 3) := by decide +kernel
theorem dX9_meet_15 : decode cX9_meet 15 = .ok (.aload_n 0, 1) := by decide +kernel
theorem dX9_meet_16 : decode cX9_meet 16 = .ok (.iconst 0, 1) := by decide +kernel
theorem dX9_meet_17 : decode cX9_meet 17 = .ok (.iload_n 1, 1) := by decide +kernel
theorem dX9_meet_18 : decode cX9_meet 18 = .ok (.iload_n 2, 1) := by decide +kernel
theorem dX9_meet_19 : decode cX9_meet 19 = .ok (.invokevirtual 56, 3) := by decide +kernel
theorem dX9_meet_22 : decode cX9_meet 22 = .ok (.areturn, 1) := by decide +kernel
theorem dX9_numberMet_0 : decode cX9_numberMet 0 = .ok (.aload_n 0, 1) := by decide +kernel
theorem dX9_numberMet_1 : decode cX9_numberMet 1 = .ok (.iload_n 1, 1) := by decide +kernel
theorem dX9_numberMet_2 : decode cX9_numberMet 2 = .ok (.iload_n 2, 1) := by decide +kernel
theorem dX9_numberMet_3 : decode cX9_numberMet 3 = .ok (.invokevirtual 60, 3) := by decide +kernel
theorem dX9_numberMet_6 : decode cX9_numberMet 6 = .ok (.astore_n 3, 1) := by decide +kernel
theorem dX9_numberMet_7 : decode cX9_numberMet 7 = .ok (.aload_n 3, 1) := by decide +kernel
theorem dX9_numberMet_8 : decode cX9_numberMet 8 = .ok (.ifnonnull 8, 3) := by decide +kernel
theorem dX9_numberMet_11 : decode cX9_numberMet 11 = .ok (.bipush (-2), 2) := by decide +kernel
theorem dX9_numberMet_13 : decode cX9_numberMet 13 = .ok (.goto 7, 3) := by decide +kernel
theorem dX9_numberMet_16 : decode cX9_numberMet 16 = .ok (.aload_n 3, 1) := by decide +kernel
theorem dX9_numberMet_17 : decode cX9_numberMet 17 = .ok (.getfield 63, 3) := by decide +kernel
theorem dX9_numberMet_20 : decode cX9_numberMet 20 = .ok (.ireturn, 1) := by decide +kernel
theorem dX9_loadStand_0 : decode cX9_loadStand 0 = .ok (.aload_n 1, 1) := by decide +kernel
theorem dX9_loadStand_1 : decode cX9_loadStand 1 = .ok (.getfield 66, 3) := by decide +kernel
theorem dX9_loadStand_4 : decode cX9_loadStand 4 = .ok (.ifCond .eq 4, 3) := by decide +kernel
theorem dX9_loadStand_7 : decode cX9_loadStand 7 = .ok (.return_, 1) := by decide +kernel
theorem dX9_loadStand_8 : decode cX9_loadStand 8 = .ok (.aload_n 0, 1) := by decide +kernel
theorem dX9_loadStand_9 : decode cX9_loadStand 9 = .ok (.getfield 24, 3) := by decide +kernel
theorem dX9_loadStand_12 : decode cX9_loadStand 12 = .ok (.aload_n 1, 1) := by decide +kernel
theorem dX9_loadStand_13 : decode cX9_loadStand 13 = .ok (.getfield 45, 3) := by decide +kernel
theorem dX9_loadStand_16 : decode cX9_loadStand 16 = .ok (.aload_n 1, 1) := by decide +kernel
theorem dX9_loadStand_17 : decode cX9_loadStand 17 = .ok (.getfield 42, 3) := by decide +kernel
theorem dX9_loadStand_20 : decode cX9_loadStand 20 = .ok (.invokevirtual 69, 3) := by decide +kernel
theorem dX9_loadStand_23 : decode cX9_loadStand 23 = .ok (.istore_n 2, 1) := by decide +kernel
theorem dX9_loadStand_24 : decode cX9_loadStand 24 = .ok (.iload_n 2, 1) := by decide +kernel
theorem dX9_loadStand_25 : decode cX9_loadStand 25 = .ok (.iconst (-1), 1) := by decide +kernel
theorem dX9_loadStand_26 : decode cX9_loadStand 26 = .ok (.if_icmp .ne 9, 3) := by decide +kernel
theorem dX9_loadStand_29 : decode cX9_loadStand 29 = .ok (.aload_n 1, 1) := by decide +kernel
theorem dX9_loadStand_30 : decode cX9_loadStand 30 = .ok (.iconst 4, 1) := by decide +kernel
theorem dX9_loadStand_31 : decode cX9_loadStand 31 = .ok (.putfield 66, 3) := by decide +kernel
theorem dX9_loadStand_34 : decode cX9_loadStand 34 = .ok (.return_, 1) := by decide +kernel
theorem dX9_loadStand_35 : decode cX9_loadStand 35 = .ok (.aload_n 1, 1) := by decide +kernel
theorem dX9_loadStand_36 : decode cX9_loadStand 36 = .ok (.aload_n 0, 1) := by decide +kernel
theorem dX9_loadStand_37 : decode cX9_loadStand 37 = .ok (.getfield 24, 3) := by decide +kernel
theorem dX9_loadStand_40 : decode cX9_loadStand 40 = .ok (.getfield 75, 3) := by decide +kernel
theorem dX9_loadStand_43 : decode cX9_loadStand 43 = .ok (.iload_n 2, 1) := by decide +kernel
theorem dX9_loadStand_44 : decode cX9_loadStand 44 = .ok (.iaload, 1) := by decide +kernel
theorem dX9_loadStand_45 : decode cX9_loadStand 45 = .ok (.putfield 78, 3) := by decide +kernel
theorem dX9_loadStand_48 : decode cX9_loadStand 48 = .ok (.aload_n 0, 1) := by decide +kernel
theorem dX9_loadStand_49 : decode cX9_loadStand 49 = .ok (.getfield 24, 3) := by decide +kernel
theorem dX9_loadStand_52 : decode cX9_loadStand 52 = .ok (.iload_n 2, 1) := by decide +kernel
theorem dX9_loadStand_53 : decode cX9_loadStand 53 = .ok (.aload_n 1, 1) := by decide +kernel
theorem dX9_loadStand_54 : decode cX9_loadStand 54 = .ok (.getfield 80, 3) := by decide +kernel
theorem dX9_loadStand_57 : decode cX9_loadStand 57 = .ok (.invokevirtual 83, 3) := by decide +kernel
theorem dX9_loadStand_60 : decode cX9_loadStand 60 = .ok (.aload_n 1, 1) := by decide +kernel
theorem dX9_loadStand_61 : decode cX9_loadStand 61 = .ok (.aload_n 0, 1) := by decide +kernel
theorem dX9_loadStand_62 : decode cX9_loadStand 62 = .ok (.getfield 24, 3) := by decide +kernel
theorem dX9_loadStand_65 : decode cX9_loadStand 65 = .ok (.getfield 87, 3) := by decide +kernel
theorem dX9_loadStand_68 : decode cX9_loadStand 68 = .ok (.iload_n 2, 1) := by decide +kernel
theorem dX9_loadStand_69 : decode cX9_loadStand 69 = .ok (.iaload, 1) := by decide +kernel
theorem dX9_loadStand_70 : decode cX9_loadStand 70 = .ok (.invokevirtual 90, 3) := by decide +kernel
theorem dX9_loadStand_73 : decode cX9_loadStand 73 = .ok (.aload_n 0, 1) := by decide +kernel
theorem dX9_loadStand_74 : decode cX9_loadStand 74 = .ok (.dup, 1) := by decide +kernel
theorem dX9_loadStand_75 : decode cX9_loadStand 75 = .ok (.getfield 39, 3) := by decide +kernel
theorem dX9_loadStand_78 : decode cX9_loadStand 78 = .ok (.iconst 1, 1) := by decide +kernel
theorem dX9_loadStand_79 : decode cX9_loadStand 79 = .ok (.iadd, 1) := by decide +kernel
theorem dX9_loadStand_80 : decode cX9_loadStand 80 = .ok (.putfield 39, 3) := by decide +kernel
theorem dX9_loadStand_83 : decode cX9_loadStand 83 = .ok (.return_, 1) := by decide +kernel
theorem dX9_fetch_0 : decode cX9_fetch 0 = .ok (.aload_n 0, 1) := by decide +kernel
theorem dX9_fetch_1 : decode cX9_fetch 1 = .ok (.iload_n 2, 1) := by decide +kernel
theorem dX9_fetch_2 : decode cX9_fetch 2 = .ok (.iload_n 3, 1) := by decide +kernel
theorem dX9_fetch_3 : decode cX9_fetch 3 = .ok (.invokevirtual 52, 3) := by decide +kernel
theorem dX9_fetch_6 : decode cX9_fetch 6 = .ok (.astore 4, 2) := by decide +kernel
theorem dX9_fetch_8 : decode cX9_fetch 8 = .ok (.aload 4, 2) := by decide +kernel
theorem dX9_fetch_10 : decode cX9_fetch 10 = .ok (.ifnull 48, 3) := by decide +kernel
theorem dX9_fetch_13 : decode cX9_fetch 13 = .ok (.aload 4, 2) := by decide +kernel
theorem dX9_fetch_15 : decode cX9_fetch 15 = .ok (.getfield 66, 3) := by decide +kernel
theorem dX9_fetch_18 : decode cX9_fetch 18 = .ok (.ifCond .eq 40, 3) := by decide +kernel
theorem dX9_fetch_21 : decode cX9_fetch 21 = .ok (.aload 4, 2) := by decide +kernel
theorem dX9_fetch_23 : decode cX9_fetch 23 = .ok (.invokevirtual 93, 3) := by decide +kernel
theorem dX9_fetch_26 : decode cX9_fetch 26 = .ok (.ifCond .eq 30, 3) := by decide +kernel
theorem dX9_fetch_29 : decode cX9_fetch 29 = .ok (.aload_n 0, 1) := by decide +kernel
theorem dX9_fetch_30 : decode cX9_fetch 30 = .ok (.getfield 24, 3) := by decide +kernel
theorem dX9_fetch_33 : decode cX9_fetch 33 = .ok (.getfield 97, 3) := by decide +kernel
theorem dX9_fetch_36 : decode cX9_fetch 36 = .ok (.aload 4, 2) := by decide +kernel
theorem dX9_fetch_38 : decode cX9_fetch 38 = .ok (.getfield 78, 3) := by decide +kernel
theorem dX9_fetch_41 : decode cX9_fetch 41 = .ok (.iload_n 1, 1) := by decide +kernel
theorem dX9_fetch_42 : decode cX9_fetch 42 = .ok (.invokevirtual 101, 3) := by decide +kernel
theorem dX9_fetch_45 : decode cX9_fetch 45 = .ok (.ifCond .eq 11, 3) := by decide +kernel
theorem dX9_fetch_48 : decode cX9_fetch 48 = .ok (.aload 4, 2) := by decide +kernel
theorem dX9_fetch_50 : decode cX9_fetch 50 = .ok (.getfield 63, 3) := by decide +kernel
theorem dX9_fetch_53 : decode cX9_fetch 53 = .ok (.goto 4, 3) := by decide +kernel
theorem dX9_fetch_56 : decode cX9_fetch 56 = .ok (.iconst (-1), 1) := by decide +kernel
theorem dX9_fetch_57 : decode cX9_fetch 57 = .ok (.ireturn, 1) := by decide +kernel
theorem dX9_fetch_58 : decode cX9_fetch 58 = .ok (.aload_n 0, 1) := by decide +kernel
theorem dX9_fetch_59 : decode cX9_fetch 59 = .ok (.getfield 24, 3) := by decide +kernel
theorem dX9_fetch_62 : decode cX9_fetch 62 = .ok (.iload_n 2, 1) := by decide +kernel
theorem dX9_fetch_63 : decode cX9_fetch 63 = .ok (.iload_n 3, 1) := by decide +kernel
theorem dX9_fetch_64 : decode cX9_fetch 64 = .ok (.invokevirtual 69, 3) := by decide +kernel
theorem dX9_fetch_67 : decode cX9_fetch 67 = .ok (.istore 5, 2) := by decide +kernel
theorem dX9_fetch_69 : decode cX9_fetch 69 = .ok (.iload 5, 2) := by decide +kernel
theorem dX9_fetch_71 : decode cX9_fetch 71 = .ok (.iconst (-1), 1) := by decide +kernel
theorem dX9_fetch_72 : decode cX9_fetch 72 = .ok (.if_icmp .eq 27, 3) := by decide +kernel
theorem dX9_fetch_75 : decode cX9_fetch 75 = .ok (.aload_n 0, 1) := by decide +kernel
theorem dX9_fetch_76 : decode cX9_fetch 76 = .ok (.getfield 24, 3) := by decide +kernel
theorem dX9_fetch_79 : decode cX9_fetch 79 = .ok (.getfield 97, 3) := by decide +kernel
theorem dX9_fetch_82 : decode cX9_fetch 82 = .ok (.aload_n 0, 1) := by decide +kernel
theorem dX9_fetch_83 : decode cX9_fetch 83 = .ok (.getfield 24, 3) := by decide +kernel
theorem dX9_fetch_86 : decode cX9_fetch 86 = .ok (.getfield 75, 3) := by decide +kernel
theorem dX9_fetch_89 : decode cX9_fetch 89 = .ok (.iload 5, 2) := by decide +kernel
theorem dX9_fetch_91 : decode cX9_fetch 91 = .ok (.iaload, 1) := by decide +kernel
theorem dX9_fetch_92 : decode cX9_fetch 92 = .ok (.iload_n 1, 1) := by decide +kernel
theorem dX9_fetch_93 : decode cX9_fetch 93 = .ok (.invokevirtual 101, 3) := by decide +kernel
theorem dX9_fetch_96 : decode cX9_fetch 96 = .ok (.ifCond .ne 5, 3) := by decide +kernel
theorem dX9_fetch_99 : decode cX9_fetch 99 = .ok (.iconst (-1), 1) := by decide +kernel
theorem dX9_fetch_100 : decode cX9_fetch 100 = .ok (.ireturn, 1) := by decide +kernel
theorem dX9_fetch_101 : decode cX9_fetch 101 = .ok (.aload_n 0, 1) := by decide +kernel
theorem dX9_fetch_102 : decode cX9_fetch 102 = .ok (.iload_n 2, 1) := by decide +kernel
theorem dX9_fetch_103 : decode cX9_fetch 103 = .ok (.iload_n 3, 1) := by decide +kernel
theorem dX9_fetch_104 : decode cX9_fetch 104 = .ok (.invokevirtual 60, 3) := by decide +kernel
theorem dX9_fetch_107 : decode cX9_fetch 107 = .ok (.astore 6, 2) := by decide +kernel
theorem dX9_fetch_109 : decode cX9_fetch 109 = .ok (.aload 6, 2) := by decide +kernel
theorem dX9_fetch_111 : decode cX9_fetch 111 = .ok (.ifnonnull 6, 3) := by decide +kernel
theorem dX9_fetch_114 : decode cX9_fetch 114 = .ok (.bipush (-2), 2) := by decide +kernel
theorem dX9_fetch_116 : decode cX9_fetch 116 = .ok (.ireturn, 1) := by decide +kernel
theorem dX9_fetch_117 : decode cX9_fetch 117 = .ok (.aload_n 0, 1) := by decide +kernel
theorem dX9_fetch_118 : decode cX9_fetch 118 = .ok (.aload 6, 2) := by decide +kernel
theorem dX9_fetch_120 : decode cX9_fetch 120 = .ok (.invokevirtual 107, 3) := by decide +kernel
theorem dX9_fetch_123 : decode cX9_fetch 123 = .ok (.aload 6, 2) := by decide +kernel
theorem dX9_fetch_125 : decode cX9_fetch 125 = .ok (.getfield 63, 3) := by decide +kernel
theorem dX9_fetch_128 : decode cX9_fetch 128 = .ok (.ireturn, 1) := by decide +kernel
theorem dX9_gather_0 : decode cX9_gather 0 = .ok (.aload_n 0, 1) := by decide +kernel
theorem dX9_gather_1 : decode cX9_gather 1 = .ok (.getfield 24, 3) := by decide +kernel
theorem dX9_gather_4 : decode cX9_gather 4 = .ok (.getfield 97, 3) := by decide +kernel
theorem dX9_gather_7 : decode cX9_gather 7 = .ok (.aload_n 2, 1) := by decide +kernel
theorem dX9_gather_8 : decode cX9_gather 8 = .ok (.getfield 111, 3) := by decide +kernel
theorem dX9_gather_11 : decode cX9_gather 11 = .ok (.invokevirtual 116, 3) := by decide +kernel
theorem dX9_gather_14 : decode cX9_gather 14 = .ok (.istore_n 3, 1) := by decide +kernel
theorem dX9_gather_15 : decode cX9_gather 15 = .ok (.iconst 0, 1) := by decide +kernel
theorem dX9_gather_16 : decode cX9_gather 16 = .ok (.istore 4, 2) := by decide +kernel
theorem dX9_gather_18 : decode cX9_gather 18 = .ok (.aload_n 0, 1) := by decide +kernel
theorem dX9_gather_19 : decode cX9_gather 19 = .ok (.getfield 24, 3) := by decide +kernel
theorem dX9_gather_22 : decode cX9_gather 22 = .ok (.iload_n 3, 1) := by decide +kernel
theorem dX9_gather_23 : decode cX9_gather 23 = .ok (.invokevirtual 120, 3) := by decide +kernel
theorem dX9_gather_26 : decode cX9_gather 26 = .ok (.istore 5, 2) := by decide +kernel
theorem dX9_gather_28 : decode cX9_gather 28 = .ok (.iload 5, 2) := by decide +kernel
theorem dX9_gather_30 : decode cX9_gather 30 = .ok (.aload_n 0, 1) := by decide +kernel
theorem dX9_gather_31 : decode cX9_gather 31 = .ok (.getfield 24, 3) := by decide +kernel
theorem dX9_gather_34 : decode cX9_gather 34 = .ok (.iload_n 3, 1) := by decide +kernel
theorem dX9_gather_35 : decode cX9_gather 35 = .ok (.invokevirtual 123, 3) := by decide +kernel
theorem dX9_gather_38 : decode cX9_gather 38 = .ok (.if_icmp .ge 94, 3) := by decide +kernel
theorem dX9_gather_41 : decode cX9_gather 41 = .ok (.aload_n 0, 1) := by decide +kernel
theorem dX9_gather_42 : decode cX9_gather 42 = .ok (.getfield 24, 3) := by decide +kernel
theorem dX9_gather_45 : decode cX9_gather 45 = .ok (.getfield 97, 3) := by decide +kernel
theorem dX9_gather_48 : decode cX9_gather 48 = .ok (.aload_n 0, 1) := by decide +kernel
theorem dX9_gather_49 : decode cX9_gather 49 = .ok (.getfield 24, 3) := by decide +kernel
theorem dX9_gather_52 : decode cX9_gather 52 = .ok (.getfield 75, 3) := by decide +kernel
theorem dX9_gather_55 : decode cX9_gather 55 = .ok (.iload 5, 2) := by decide +kernel
theorem dX9_gather_57 : decode cX9_gather 57 = .ok (.iaload, 1) := by decide +kernel
theorem dX9_gather_58 : decode cX9_gather 58 = .ok (.aload_n 2, 1) := by decide +kernel
theorem dX9_gather_59 : decode cX9_gather 59 = .ok (.getfield 111, 3) := by decide +kernel
theorem dX9_gather_62 : decode cX9_gather 62 = .ok (.invokevirtual 101, 3) := by decide +kernel
theorem dX9_gather_65 : decode cX9_gather 65 = .ok (.ifCond .eq 61, 3) := by decide +kernel
theorem dX9_gather_68 : decode cX9_gather 68 = .ok (.aload_n 0, 1) := by decide +kernel
theorem dX9_gather_69 : decode cX9_gather 69 = .ok (.getfield 24, 3) := by decide +kernel
theorem dX9_gather_72 : decode cX9_gather 72 = .ok (.iload 5, 2) := by decide +kernel
theorem dX9_gather_74 : decode cX9_gather 74 = .ok (.aload_n 2, 1) := by decide +kernel
theorem dX9_gather_75 : decode cX9_gather 75 = .ok (.getfield 126, 3) := by decide +kernel
theorem dX9_gather_78 : decode cX9_gather 78 = .ok (.invokevirtual 129, 3) := by decide +kernel
theorem dX9_gather_81 : decode cX9_gather 81 = .ok (.aload_n 1, 1) := by decide +kernel
theorem dX9_gather_82 : decode cX9_gather 82 = .ok (.getfield 42, 3) := by decide +kernel
theorem dX9_gather_85 : decode cX9_gather 85 = .ok (.if_icmp .ne 41, 3) := by decide +kernel
theorem dX9_gather_88 : decode cX9_gather 88 = .ok (.aload_n 0, 1) := by decide +kernel
theorem dX9_gather_89 : decode cX9_gather 89 = .ok (.iload_n 3, 1) := by decide +kernel
theorem dX9_gather_90 : decode cX9_gather 90 = .ok (.aload_n 0, 1) := by decide +kernel
theorem dX9_gather_91 : decode cX9_gather 91 = .ok (.getfield 24, 3) := by decide +kernel
theorem dX9_gather_94 : decode cX9_gather 94 = .ok (.getfield 132, 3) := by decide +kernel
theorem dX9_gather_97 : decode cX9_gather 97 = .ok (.iload 5, 2) := by decide +kernel
theorem dX9_gather_99 : decode cX9_gather 99 = .ok (.iaload, 1) := by decide +kernel
theorem dX9_gather_100 : decode cX9_gather 100 = .ok (.invokevirtual 134, 3) := by decide +kernel
theorem dX9_gather_103 : decode cX9_gather 103 = .ok (.ifCond .eq 23, 3) := by decide +kernel
theorem dX9_gather_106 : decode cX9_gather 106 = .ok (.aload_n 0, 1) := by decide +kernel
theorem dX9_gather_107 : decode cX9_gather 107 = .ok (.getfield 20, 3) := by decide +kernel
theorem dX9_gather_110 : decode cX9_gather 110 = .ok (.iload 4, 2) := by decide +kernel
theorem dX9_gather_112 : decode cX9_gather 112 = .ok (.aload_n 0, 1) := by decide +kernel
theorem dX9_gather_113 : decode cX9_gather 113 = .ok (.getfield 24, 3) := by decide +kernel
theorem dX9_gather_116 : decode cX9_gather 116 = .ok (.getfield 132, 3) := by decide +kernel
theorem dX9_gather_119 : decode cX9_gather 119 = .ok (.iload 5, 2) := by decide +kernel
theorem dX9_gather_121 : decode cX9_gather 121 = .ok (.iaload, 1) := by decide +kernel
theorem dX9_gather_122 : decode cX9_gather 122 = .ok (.iastore, 1) := by decide +kernel
theorem dX9_gather_123 : decode cX9_gather 123 = .ok (.iinc 4 1, 3) := by decide +kernel
theorem dX9_gather_126 : decode cX9_gather 126 = .ok (.iinc 5 1, 3) := by decide +kernel
theorem dX9_gather_129 : decode cX9_gather 129 = .ok (.goto (-101), 3) := by decide +kernel
theorem dX9_gather_132 : decode cX9_gather 132 = .ok (.iconst 0, 1) := by decide +kernel
theorem dX9_gather_133 : decode cX9_gather 133 = .ok (.istore 5, 2) := by decide +kernel
theorem dX9_gather_135 : decode cX9_gather 135 = .ok (.iload 5, 2) := by decide +kernel
theorem dX9_gather_137 : decode cX9_gather 137 = .ok (.aload_n 0, 1) := by decide +kernel
theorem dX9_gather_138 : decode cX9_gather 138 = .ok (.getfield 35, 3) := by decide +kernel
theorem dX9_gather_141 : decode cX9_gather 141 = .ok (.if_icmp .ge 79, 3) := by decide +kernel
theorem dX9_gather_144 : decode cX9_gather 144 = .ok (.aload_n 0, 1) := by decide +kernel
theorem dX9_gather_145 : decode cX9_gather 145 = .ok (.getfield 11, 3) := by decide +kernel
theorem dX9_gather_148 : decode cX9_gather 148 = .ok (.iload 5, 2) := by decide +kernel
theorem dX9_gather_150 : decode cX9_gather 150 = .ok (.aaload, 1) := by decide +kernel
theorem dX9_gather_151 : decode cX9_gather 151 = .ok (.astore 6, 2) := by decide +kernel
theorem dX9_gather_153 : decode cX9_gather 153 = .ok (.aload 6, 2) := by decide +kernel
theorem dX9_gather_155 : decode cX9_gather 155 = .ok (.invokevirtual 93, 3) := by decide +kernel
theorem dX9_gather_158 : decode cX9_gather 158 = .ok (.ifCond .eq 56, 3) := by decide +kernel
theorem dX9_gather_161 : decode cX9_gather 161 = .ok (.aload_n 0, 1) := by decide +kernel
theorem dX9_gather_162 : decode cX9_gather 162 = .ok (.getfield 24, 3) := by decide +kernel
theorem dX9_gather_165 : decode cX9_gather 165 = .ok (.getfield 97, 3) := by decide +kernel
theorem dX9_gather_168 : decode cX9_gather 168 = .ok (.aload 6, 2) := by decide +kernel
theorem dX9_gather_170 : decode cX9_gather 170 = .ok (.getfield 78, 3) := by decide +kernel
theorem dX9_gather_173 : decode cX9_gather 173 = .ok (.aload_n 2, 1) := by decide +kernel
theorem dX9_gather_174 : decode cX9_gather 174 = .ok (.getfield 111, 3) := by decide +kernel
theorem dX9_gather_177 : decode cX9_gather 177 = .ok (.invokevirtual 101, 3) := by decide +kernel
theorem dX9_gather_180 : decode cX9_gather 180 = .ok (.ifCond .eq 34, 3) := by decide +kernel
theorem dX9_gather_183 : decode cX9_gather 183 = .ok (.aload 6, 2) := by decide +kernel
theorem dX9_gather_185 : decode cX9_gather 185 = .ok (.getfield 80, 3) := by decide +kernel
theorem dX9_gather_188 : decode cX9_gather 188 = .ok (.aload_n 2, 1) := by decide +kernel
theorem dX9_gather_189 : decode cX9_gather 189 = .ok (.getfield 126, 3) := by decide +kernel
theorem dX9_gather_192 : decode cX9_gather 192 = .ok (.iaload, 1) := by decide +kernel
theorem dX9_gather_193 : decode cX9_gather 193 = .ok (.aload_n 1, 1) := by decide +kernel
theorem dX9_gather_194 : decode cX9_gather 194 = .ok (.getfield 42, 3) := by decide +kernel
theorem dX9_gather_197 : decode cX9_gather 197 = .ok (.if_icmp .ne 17, 3) := by decide +kernel
theorem dX9_gather_200 : decode cX9_gather 200 = .ok (.aload_n 0, 1) := by decide +kernel
theorem dX9_gather_201 : decode cX9_gather 201 = .ok (.aload 6, 2) := by decide +kernel
theorem dX9_gather_203 : decode cX9_gather 203 = .ok (.getfield 42, 3) := by decide +kernel
theorem dX9_gather_206 : decode cX9_gather 206 = .ok (.iload 4, 2) := by decide +kernel
theorem dX9_gather_208 : decode cX9_gather 208 = .ok (.invokevirtual 137, 3) := by decide +kernel
theorem dX9_gather_211 : decode cX9_gather 211 = .ok (.iinc 4 1, 3) := by decide +kernel
theorem dX9_gather_214 : decode cX9_gather 214 = .ok (.iinc 5 1, 3) := by decide +kernel
theorem dX9_gather_217 : decode cX9_gather 217 = .ok (.goto (-82), 3) := by decide +kernel
theorem dX9_gather_220 : decode cX9_gather 220 = .ok (.iload 4, 2) := by decide +kernel
theorem dX9_gather_222 : decode cX9_gather 222 = .ok (.ireturn, 1) := by decide +kernel
theorem dX9_isToldByRow_0 : decode cX9_isToldByRow 0 = .ok (.aload_n 0, 1) := by decide +kernel
theorem dX9_isToldByRow_1 : decode cX9_isToldByRow 1 = .ok (.iload_n 1, 1) := by decide +kernel
theorem dX9_isToldByRow_2 : decode cX9_isToldByRow 2 = .ok (.iload_n 2, 1) := by decide +kernel
theorem dX9_isToldByRow_3 : decode cX9_isToldByRow 3 = .ok (.invokevirtual 52, 3) := by decide +kernel
theorem dX9_isToldByRow_6 : decode cX9_isToldByRow 6 = .ok (.astore_n 3, 1) := by decide +kernel
theorem dX9_isToldByRow_7 : decode cX9_isToldByRow 7 = .ok (.aload_n 3, 1) := by decide +kernel
theorem dX9_isToldByRow_8 : decode cX9_isToldByRow 8 = .ok (.ifnull 10, 3) := by decide +kernel
theorem dX9_isToldByRow_11 : decode cX9_isToldByRow 11 = .ok (.aload_n 3, 1) := by decide +kernel
theorem dX9_isToldByRow_12 : decode cX9_isToldByRow 12 = .ok (.getfield 66, 3) := by decide +kernel
theorem dX9_isToldByRow_15 : decode cX9_isToldByRow 15 = .ok (.ifCond .ne 7, 3) := by decide +kernel
theorem dX9_isToldByRow_18 : decode cX9_isToldByRow 18 = .ok (.iconst 1, 1) := by decide +kernel
theorem dX9_isToldByRow_19 : decode cX9_isToldByRow 19 = .ok (.goto 4, 3) := by decide +kernel
theorem dX9_isToldByRow_22 : decode cX9_isToldByRow 22 = .ok (.iconst 0, 1) := by decide +kernel
theorem dX9_isToldByRow_23 : decode cX9_isToldByRow 23 = .ok (.ireturn, 1) := by decide +kernel
theorem dX9_enlist_0 : decode cX9_enlist 0 = .ok (.iload_n 2, 1) := by decide +kernel
theorem dX9_enlist_1 : decode cX9_enlist 1 = .ok (.istore_n 3, 1) := by decide +kernel
theorem dX9_enlist_2 : decode cX9_enlist 2 = .ok (.iload_n 3, 1) := by decide +kernel
theorem dX9_enlist_3 : decode cX9_enlist 3 = .ok (.ifCond .le 35, 3) := by decide +kernel
theorem dX9_enlist_6 : decode cX9_enlist 6 = .ok (.aload_n 0, 1) := by decide +kernel
theorem dX9_enlist_7 : decode cX9_enlist 7 = .ok (.getfield 20, 3) := by decide +kernel
theorem dX9_enlist_10 : decode cX9_enlist 10 = .ok (.iload_n 3, 1) := by decide +kernel
theorem dX9_enlist_11 : decode cX9_enlist 11 = .ok (.iconst 1, 1) := by decide +kernel
theorem dX9_enlist_12 : decode cX9_enlist 12 = .ok (.isub, 1) := by decide +kernel
theorem dX9_enlist_13 : decode cX9_enlist 13 = .ok (.iaload, 1) := by decide +kernel
theorem dX9_enlist_14 : decode cX9_enlist 14 = .ok (.iload_n 1, 1) := by decide +kernel
theorem dX9_enlist_15 : decode cX9_enlist 15 = .ok (.if_icmp .le 23, 3) := by decide +kernel
theorem dX9_enlist_18 : decode cX9_enlist 18 = .ok (.aload_n 0, 1) := by decide +kernel
theorem dX9_enlist_19 : decode cX9_enlist 19 = .ok (.getfield 20, 3) := by decide +kernel
theorem dX9_enlist_22 : decode cX9_enlist 22 = .ok (.iload_n 3, 1) := by decide +kernel
theorem dX9_enlist_23 : decode cX9_enlist 23 = .ok (.aload_n 0, 1) := by decide +kernel
theorem dX9_enlist_24 : decode cX9_enlist 24 = .ok (.getfield 20, 3) := by decide +kernel
theorem dX9_enlist_27 : decode cX9_enlist 27 = .ok (.iload_n 3, 1) := by decide +kernel
theorem dX9_enlist_28 : decode cX9_enlist 28 = .ok (.iconst 1, 1) := by decide +kernel
theorem dX9_enlist_29 : decode cX9_enlist 29 = .ok (.isub, 1) := by decide +kernel
theorem dX9_enlist_30 : decode cX9_enlist 30 = .ok (.iaload, 1) := by decide +kernel
theorem dX9_enlist_31 : decode cX9_enlist 31 = .ok (.iastore, 1) := by decide +kernel
theorem dX9_enlist_32 : decode cX9_enlist 32 = .ok (.iinc 3 (-1), 3) := by decide +kernel
theorem dX9_enlist_35 : decode cX9_enlist 35 = .ok (.goto (-33), 3) := by decide +kernel
theorem dX9_enlist_38 : decode cX9_enlist 38 = .ok (.aload_n 0, 1) := by decide +kernel
theorem dX9_enlist_39 : decode cX9_enlist 39 = .ok (.getfield 20, 3) := by decide +kernel
theorem dX9_enlist_42 : decode cX9_enlist 42 = .ok (.iload_n 3, 1) := by decide +kernel
theorem dX9_enlist_43 : decode cX9_enlist 43 = .ok (.iload_n 1, 1) := by decide +kernel
theorem dX9_enlist_44 : decode cX9_enlist 44 = .ok (.iastore, 1) := by decide +kernel
theorem dX9_enlist_45 : decode cX9_enlist 45 = .ok (.return_, 1) := by decide +kernel
theorem dX9_dropFrom_0 : decode cX9_dropFrom 0 = .ok (.iconst 0, 1) := by decide +kernel
theorem dX9_dropFrom_1 : decode cX9_dropFrom 1 = .ok (.istore_n 2, 1) := by decide +kernel
theorem dX9_dropFrom_2 : decode cX9_dropFrom 2 = .ok (.iload_n 2, 1) := by decide +kernel
theorem dX9_dropFrom_3 : decode cX9_dropFrom 3 = .ok (.aload_n 0, 1) := by decide +kernel
theorem dX9_dropFrom_4 : decode cX9_dropFrom 4 = .ok (.getfield 35, 3) := by decide +kernel
theorem dX9_dropFrom_7 : decode cX9_dropFrom 7 = .ok (.if_icmp .ge 19, 3) := by decide +kernel
theorem dX9_dropFrom_10 : decode cX9_dropFrom 10 = .ok (.aload_n 0, 1) := by decide +kernel
theorem dX9_dropFrom_11 : decode cX9_dropFrom 11 = .ok (.getfield 11, 3) := by decide +kernel
theorem dX9_dropFrom_14 : decode cX9_dropFrom 14 = .ok (.iload_n 2, 1) := by decide +kernel
theorem dX9_dropFrom_15 : decode cX9_dropFrom 15 = .ok (.aaload, 1) := by decide +kernel
theorem dX9_dropFrom_16 : decode cX9_dropFrom 16 = .ok (.iconst 0, 1) := by decide +kernel
theorem dX9_dropFrom_17 : decode cX9_dropFrom 17 = .ok (.putfield 141, 3) := by decide +kernel
theorem dX9_dropFrom_20 : decode cX9_dropFrom 20 = .ok (.iinc 2 1, 3) := by decide +kernel
theorem dX9_dropFrom_23 : decode cX9_dropFrom 23 = .ok (.goto (-21), 3) := by decide +kernel
theorem dX9_dropFrom_26 : decode cX9_dropFrom 26 = .ok (.aload_n 0, 1) := by decide +kernel
theorem dX9_dropFrom_27 : decode cX9_dropFrom 27 = .ok (.iconst 0, 1) := by decide +kernel
theorem dX9_dropFrom_28 : decode cX9_dropFrom 28 = .ok (.putfield 144, 3) := by decide +kernel
theorem dX9_dropFrom_31 : decode cX9_dropFrom 31 = .ok (.aload_n 0, 1) := by decide +kernel
theorem dX9_dropFrom_32 : decode cX9_dropFrom 32 = .ok (.aload_n 1, 1) := by decide +kernel
theorem dX9_dropFrom_33 : decode cX9_dropFrom 33 = .ok (.invokevirtual 147, 3) := by decide +kernel
theorem dX9_dropFrom_36 : decode cX9_dropFrom 36 = .ok (.iconst 0, 1) := by decide +kernel
theorem dX9_dropFrom_37 : decode cX9_dropFrom 37 = .ok (.istore_n 2, 1) := by decide +kernel
theorem dX9_dropFrom_38 : decode cX9_dropFrom 38 = .ok (.iload_n 2, 1) := by decide +kernel
theorem dX9_dropFrom_39 : decode cX9_dropFrom 39 = .ok (.aload_n 0, 1) := by decide +kernel
theorem dX9_dropFrom_40 : decode cX9_dropFrom 40 = .ok (.getfield 144, 3) := by decide +kernel
theorem dX9_dropFrom_43 : decode cX9_dropFrom 43 = .ok (.if_icmp .ge 25, 3) := by decide +kernel
theorem dX9_dropFrom_46 : decode cX9_dropFrom 46 = .ok (.aload_n 0, 1) := by decide +kernel
theorem dX9_dropFrom_47 : decode cX9_dropFrom 47 = .ok (.aload_n 0, 1) := by decide +kernel
theorem dX9_dropFrom_48 : decode cX9_dropFrom 48 = .ok (.getfield 17, 3) := by decide +kernel
theorem dX9_dropFrom_51 : decode cX9_dropFrom 51 = .ok (.iload_n 2, 1) := by decide +kernel
theorem dX9_dropFrom_52 : decode cX9_dropFrom 52 = .ok (.aaload, 1) := by decide +kernel
theorem dX9_dropFrom_53 : decode cX9_dropFrom 53 = .ok (.invokevirtual 150, 3) := by decide +kernel
theorem dX9_dropFrom_56 : decode cX9_dropFrom 56 = .ok (.ifCond .ne 6, 3) := by decide +kernel
theorem dX9_dropFrom_59 : decode cX9_dropFrom 59 = .ok (.bipush (-2), 2) := by decide +kernel
theorem dX9_dropFrom_61 : decode cX9_dropFrom 61 = .ok (.ireturn, 1) := by decide +kernel
theorem dX9_dropFrom_62 : decode cX9_dropFrom 62 = .ok (.iinc 2 1, 3) := by decide +kernel
theorem dX9_dropFrom_65 : decode cX9_dropFrom 65 = .ok (.goto (-27), 3) := by decide +kernel
theorem dX9_dropFrom_68 : decode cX9_dropFrom 68 = .ok (.iconst 0, 1) := by decide +kernel
theorem dX9_dropFrom_69 : decode cX9_dropFrom 69 = .ok (.istore_n 2, 1) := by decide +kernel
theorem dX9_dropFrom_70 : decode cX9_dropFrom 70 = .ok (.iload_n 2, 1) := by decide +kernel
theorem dX9_dropFrom_71 : decode cX9_dropFrom 71 = .ok (.aload_n 0, 1) := by decide +kernel
theorem dX9_dropFrom_72 : decode cX9_dropFrom 72 = .ok (.getfield 144, 3) := by decide +kernel
theorem dX9_dropFrom_75 : decode cX9_dropFrom 75 = .ok (.if_icmp .ge 33, 3) := by decide +kernel
theorem dX9_dropFrom_78 : decode cX9_dropFrom 78 = .ok (.aload_n 0, 1) := by decide +kernel
theorem dX9_dropFrom_79 : decode cX9_dropFrom 79 = .ok (.getfield 17, 3) := by decide +kernel
theorem dX9_dropFrom_82 : decode cX9_dropFrom 82 = .ok (.iload_n 2, 1) := by decide +kernel
theorem dX9_dropFrom_83 : decode cX9_dropFrom 83 = .ok (.aaload, 1) := by decide +kernel
theorem dX9_dropFrom_84 : decode cX9_dropFrom 84 = .ok (.astore_n 3, 1) := by decide +kernel
theorem dX9_dropFrom_85 : decode cX9_dropFrom 85 = .ok (.aload_n 3, 1) := by decide +kernel
theorem dX9_dropFrom_86 : decode cX9_dropFrom 86 = .ok (.aload_n 3, 1) := by decide +kernel
theorem dX9_dropFrom_87 : decode cX9_dropFrom 87 = .ok (.getfield 66, 3) := by decide +kernel
theorem dX9_dropFrom_90 : decode cX9_dropFrom 90 = .ok (.iconst 2, 1) := by decide +kernel
theorem dX9_dropFrom_91 : decode cX9_dropFrom 91 = .ok (.if_icmp .ne 7, 3) := by decide +kernel
theorem dX9_dropFrom_94 : decode cX9_dropFrom 94 = .ok (.iconst 4, 1) := by decide +kernel
theorem dX9_dropFrom_95 : decode cX9_dropFrom 95 = .ok (.goto 4, 3) := by decide +kernel
theorem dX9_dropFrom_98 : decode cX9_dropFrom 98 = .ok (.iconst 3, 1) := by decide +kernel
theorem dX9_dropFrom_99 : decode cX9_dropFrom 99 = .ok (.putfield 66, 3) := by decide +kernel
theorem dX9_dropFrom_102 : decode cX9_dropFrom 102 = .ok (.iinc 2 1, 3) := by decide +kernel
theorem dX9_dropFrom_105 : decode cX9_dropFrom 105 = .ok (.goto (-35), 3) := by decide +kernel
theorem dX9_dropFrom_108 : decode cX9_dropFrom 108 = .ok (.aload_n 0, 1) := by decide +kernel
theorem dX9_dropFrom_109 : decode cX9_dropFrom 109 = .ok (.getfield 144, 3) := by decide +kernel
theorem dX9_dropFrom_112 : decode cX9_dropFrom 112 = .ok (.ireturn, 1) := by decide +kernel
theorem dX9_joinDropRow_0 : decode cX9_joinDropRow 0 = .ok (.aload_n 1, 1) := by decide +kernel
theorem dX9_joinDropRow_1 : decode cX9_joinDropRow 1 = .ok (.getfield 141, 3) := by decide +kernel
theorem dX9_joinDropRow_4 : decode cX9_joinDropRow 4 = .ok (.ifCond .ne 37, 3) := by decide +kernel
theorem dX9_joinDropRow_7 : decode cX9_joinDropRow 7 = .ok (.aload_n 0, 1) := by decide +kernel
theorem dX9_joinDropRow_8 : decode cX9_joinDropRow 8 = .ok (.getfield 144, 3) := by decide +kernel
theorem dX9_joinDropRow_11 : decode cX9_joinDropRow 11 = .ok (.bipush 60, 2) := by decide +kernel
theorem dX9_joinDropRow_13 : decode cX9_joinDropRow 13 = .ok (.if_icmp .ge 28, 3) := by decide +kernel
theorem dX9_joinDropRow_16 : decode cX9_joinDropRow 16 = .ok (.aload_n 1, 1) := by decide +kernel
theorem dX9_joinDropRow_17 : decode cX9_joinDropRow 17 = .ok (.iconst 1, 1) := by decide +kernel
theorem dX9_joinDropRow_18 : decode cX9_joinDropRow 18 = .ok (.putfield 141, 3) := by decide +kernel
theorem dX9_joinDropRow_21 : decode cX9_joinDropRow 21 = .ok (.aload_n 0, 1) := by decide +kernel
theorem dX9_joinDropRow_22 : decode cX9_joinDropRow 22 = .ok (.getfield 17, 3) := by decide +kernel
theorem dX9_joinDropRow_25 : decode cX9_joinDropRow 25 = .ok (.aload_n 0, 1) := by decide +kernel
theorem dX9_joinDropRow_26 : decode cX9_joinDropRow 26 = .ok (.getfield 144, 3) := by decide +kernel
theorem dX9_joinDropRow_29 : decode cX9_joinDropRow 29 = .ok (.aload_n 1, 1) := by decide +kernel
theorem dX9_joinDropRow_30 : decode cX9_joinDropRow 30 = .ok (.aastore, 1) := by decide +kernel
theorem dX9_joinDropRow_31 : decode cX9_joinDropRow 31 = .ok (.aload_n 0, 1) := by decide +kernel
theorem dX9_joinDropRow_32 : decode cX9_joinDropRow 32 = .ok (.dup, 1) := by decide +kernel
theorem dX9_joinDropRow_33 : decode cX9_joinDropRow 33 = .ok (.getfield 144, 3) := by decide +kernel
theorem dX9_joinDropRow_36 : decode cX9_joinDropRow 36 = .ok (.iconst 1, 1) := by decide +kernel
theorem dX9_joinDropRow_37 : decode cX9_joinDropRow 37 = .ok (.iadd, 1) := by decide +kernel
theorem dX9_joinDropRow_38 : decode cX9_joinDropRow 38 = .ok (.putfield 144, 3) := by decide +kernel
theorem dX9_joinDropRow_41 : decode cX9_joinDropRow 41 = .ok (.return_, 1) := by decide +kernel
theorem dX9_followOwned_0 : decode cX9_followOwned 0 = .ok (.aload_n 0, 1) := by decide +kernel
theorem dX9_followOwned_1 : decode cX9_followOwned 1 = .ok (.getfield 24, 3) := by decide +kernel
theorem dX9_followOwned_4 : decode cX9_followOwned 4 = .ok (.getfield 97, 3) := by decide +kernel
theorem dX9_followOwned_7 : decode cX9_followOwned 7 = .ok (.getfield 154, 3) := by decide +kernel
theorem dX9_followOwned_10 : decode cX9_followOwned 10 = .ok (.aload_n 1, 1) := by decide +kernel
theorem dX9_followOwned_11 : decode cX9_followOwned 11 = .ok (.getfield 78, 3) := by decide +kernel
theorem dX9_followOwned_14 : decode cX9_followOwned 14 = .ok (.aaload, 1) := by decide +kernel
theorem dX9_followOwned_15 : decode cX9_followOwned 15 = .ok (.astore_n 2, 1) := by decide +kernel
theorem dX9_followOwned_16 : decode cX9_followOwned 16 = .ok (.iconst 0, 1) := by decide +kernel
theorem dX9_followOwned_17 : decode cX9_followOwned 17 = .ok (.istore_n 3, 1) := by decide +kernel
theorem dX9_followOwned_18 : decode cX9_followOwned 18 = .ok (.iload_n 3, 1) := by decide +kernel
theorem dX9_followOwned_19 : decode cX9_followOwned 19 = .ok (.aload_n 2, 1) := by decide +kernel
theorem dX9_followOwned_20 : decode cX9_followOwned 20 = .ok (.getfield 157, 3) := by decide +kernel
theorem dX9_followOwned_23 : decode cX9_followOwned 23 = .ok (.if_icmp .ge 39, 3) := by decide +kernel
theorem dX9_followOwned_26 : decode cX9_followOwned 26 = .ok (.aload_n 2, 1) := by decide +kernel
theorem dX9_followOwned_27 : decode cX9_followOwned 27 = .ok (.getfield 162, 3) := by decide +kernel
theorem dX9_followOwned_30 : decode cX9_followOwned 30 = .ok (.iload_n 3, 1) := by decide +kernel
theorem dX9_followOwned_31 : decode cX9_followOwned 31 = .ok (.aaload, 1) := by decide +kernel
theorem dX9_followOwned_32 : decode cX9_followOwned 32 = .ok (.astore 4, 2) := by decide +kernel
theorem dX9_followOwned_34 : decode cX9_followOwned 34 = .ok (.aload 4, 2) := by decide +kernel
theorem dX9_followOwned_36 : decode cX9_followOwned 36 = .ok (.iconst 4, 1) := by decide +kernel
theorem dX9_followOwned_37 : decode cX9_followOwned 37 = .ok (.invokevirtual 166, 3) := by decide +kernel
theorem dX9_followOwned_40 : decode cX9_followOwned 40 = .ok (.ifCond .eq 16, 3) := by decide +kernel
theorem dX9_followOwned_43 : decode cX9_followOwned 43 = .ok (.aload_n 0, 1) := by decide +kernel
theorem dX9_followOwned_44 : decode cX9_followOwned 44 = .ok (.aload_n 1, 1) := by decide +kernel
theorem dX9_followOwned_45 : decode cX9_followOwned 45 = .ok (.aload 4, 2) := by decide +kernel
theorem dX9_followOwned_47 : decode cX9_followOwned 47 = .ok (.iload_n 3, 1) := by decide +kernel
theorem dX9_followOwned_48 : decode cX9_followOwned 48 = .ok (.invokevirtual 170, 3) := by decide +kernel
theorem dX9_followOwned_51 : decode cX9_followOwned 51 = .ok (.ifCond .ne 5, 3) := by decide +kernel
theorem dX9_followOwned_54 : decode cX9_followOwned 54 = .ok (.iconst 0, 1) := by decide +kernel
theorem dX9_followOwned_55 : decode cX9_followOwned 55 = .ok (.ireturn, 1) := by decide +kernel
theorem dX9_followOwned_56 : decode cX9_followOwned 56 = .ok (.iinc 3 1, 3) := by decide +kernel
theorem dX9_followOwned_59 : decode cX9_followOwned 59 = .ok (.goto (-41), 3) := by decide +kernel
theorem dX9_followOwned_62 : decode cX9_followOwned 62 = .ok (.iconst 1, 1) := by decide +kernel
theorem dX9_followOwned_63 : decode cX9_followOwned 63 = .ok (.ireturn, 1) := by decide +kernel
theorem dX9_followMember_0 : decode cX9_followMember 0 = .ok (.aload_n 0, 1) := by decide +kernel
theorem dX9_followMember_1 : decode cX9_followMember 1 = .ok (.getfield 24, 3) := by decide +kernel
theorem dX9_followMember_4 : decode cX9_followMember 4 = .ok (.getfield 97, 3) := by decide +kernel
theorem dX9_followMember_7 : decode cX9_followMember 7 = .ok (.aload_n 2, 1) := by decide +kernel
theorem dX9_followMember_8 : decode cX9_followMember 8 = .ok (.getfield 111, 3) := by decide +kernel
theorem dX9_followMember_11 : decode cX9_followMember 11 = .ok (.invokevirtual 116, 3) := by decide +kernel
theorem dX9_followMember_14 : decode cX9_followMember 14 = .ok (.istore 4, 2) := by decide +kernel
theorem dX9_followMember_16 : decode cX9_followMember 16 = .ok (.aload_n 2, 1) := by decide +kernel
theorem dX9_followMember_17 : decode cX9_followMember 17 = .ok (.getfield 174, 3) := by decide +kernel
theorem dX9_followMember_20 : decode cX9_followMember 20 = .ok (.iconst 4, 1) := by decide +kernel
theorem dX9_followMember_21 : decode cX9_followMember 21 = .ok (.if_icmp .ne 33, 3) := by decide +kernel
theorem dX9_followMember_24 : decode cX9_followMember 24 = .ok (.aload_n 1, 1) := by decide +kernel
theorem dX9_followMember_25 : decode cX9_followMember 25 = .ok (.getfield 80, 3) := by decide +kernel
theorem dX9_followMember_28 : decode cX9_followMember 28 = .ok (.iload_n 3, 1) := by decide +kernel
theorem dX9_followMember_29 : decode cX9_followMember 29 = .ok (.iaload, 1) := by decide +kernel
theorem dX9_followMember_30 : decode cX9_followMember 30 = .ok (.ifCond .eq 18, 3) := by decide +kernel
theorem dX9_followMember_33 : decode cX9_followMember 33 = .ok (.aload_n 0, 1) := by decide +kernel
theorem dX9_followMember_34 : decode cX9_followMember 34 = .ok (.iload 4, 2) := by decide +kernel
theorem dX9_followMember_36 : decode cX9_followMember 36 = .ok (.aload_n 1, 1) := by decide +kernel
theorem dX9_followMember_37 : decode cX9_followMember 37 = .ok (.getfield 80, 3) := by decide +kernel
theorem dX9_followMember_40 : decode cX9_followMember 40 = .ok (.iload_n 3, 1) := by decide +kernel
theorem dX9_followMember_41 : decode cX9_followMember 41 = .ok (.iaload, 1) := by decide +kernel
theorem dX9_followMember_42 : decode cX9_followMember 42 = .ok (.invokevirtual 177, 3) := by decide +kernel
theorem dX9_followMember_45 : decode cX9_followMember 45 = .ok (.ifCond .eq 7, 3) := by decide +kernel
theorem dX9_followMember_48 : decode cX9_followMember 48 = .ok (.iconst 1, 1) := by decide +kernel
theorem dX9_followMember_49 : decode cX9_followMember 49 = .ok (.goto 4, 3) := by decide +kernel
theorem dX9_followMember_52 : decode cX9_followMember 52 = .ok (.iconst 0, 1) := by decide +kernel
theorem dX9_followMember_53 : decode cX9_followMember 53 = .ok (.ireturn, 1) := by decide +kernel
theorem dX9_followMember_54 : decode cX9_followMember 54 = .ok (.aload_n 0, 1) := by decide +kernel
theorem dX9_followMember_55 : decode cX9_followMember 55 = .ok (.aload_n 1, 1) := by decide +kernel
theorem dX9_followMember_56 : decode cX9_followMember 56 = .ok (.aload_n 2, 1) := by decide +kernel
theorem dX9_followMember_57 : decode cX9_followMember 57 = .ok (.invokevirtual 180, 3) := by decide +kernel
theorem dX9_followMember_60 : decode cX9_followMember 60 = .ok (.istore 5, 2) := by decide +kernel
theorem dX9_followMember_62 : decode cX9_followMember 62 = .ok (.iconst 0, 1) := by decide +kernel
theorem dX9_followMember_63 : decode cX9_followMember 63 = .ok (.istore 6, 2) := by decide +kernel
theorem dX9_followMember_65 : decode cX9_followMember 65 = .ok (.iload 6, 2) := by decide +kernel
theorem dX9_followMember_67 : decode cX9_followMember 67 = .ok (.iload 5, 2) := by decide +kernel
theorem dX9_followMember_69 : decode cX9_followMember 69 = .ok (.if_icmp .ge 27, 3) := by decide +kernel
theorem dX9_followMember_72 : decode cX9_followMember 72 = .ok (.aload_n 0, 1) := by decide +kernel
theorem dX9_followMember_73 : decode cX9_followMember 73 = .ok (.iload 4, 2) := by decide +kernel
theorem dX9_followMember_75 : decode cX9_followMember 75 = .ok (.aload_n 0, 1) := by decide +kernel
theorem dX9_followMember_76 : decode cX9_followMember 76 = .ok (.getfield 20, 3) := by decide +kernel
theorem dX9_followMember_79 : decode cX9_followMember 79 = .ok (.iload 6, 2) := by decide +kernel
theorem dX9_followMember_81 : decode cX9_followMember 81 = .ok (.iaload, 1) := by decide +kernel
theorem dX9_followMember_82 : decode cX9_followMember 82 = .ok (.invokevirtual 177, 3) := by decide +kernel
theorem dX9_followMember_85 : decode cX9_followMember 85 = .ok (.ifCond .ne 5, 3) := by decide +kernel
theorem dX9_followMember_88 : decode cX9_followMember 88 = .ok (.iconst 0, 1) := by decide +kernel
theorem dX9_followMember_89 : decode cX9_followMember 89 = .ok (.ireturn, 1) := by decide +kernel
theorem dX9_followMember_90 : decode cX9_followMember 90 = .ok (.iinc 6 1, 3) := by decide +kernel
theorem dX9_followMember_93 : decode cX9_followMember 93 = .ok (.goto (-28), 3) := by decide +kernel
theorem dX9_followMember_96 : decode cX9_followMember 96 = .ok (.iconst 1, 1) := by decide +kernel
theorem dX9_followMember_97 : decode cX9_followMember 97 = .ok (.ireturn, 1) := by decide +kernel
theorem dX9_followKey_0 : decode cX9_followKey 0 = .ok (.aload_n 0, 1) := by decide +kernel
theorem dX9_followKey_1 : decode cX9_followKey 1 = .ok (.iload_n 1, 1) := by decide +kernel
theorem dX9_followKey_2 : decode cX9_followKey 2 = .ok (.iload_n 2, 1) := by decide +kernel
theorem dX9_followKey_3 : decode cX9_followKey 3 = .ok (.invokevirtual 60, 3) := by decide +kernel
theorem dX9_followKey_6 : decode cX9_followKey 6 = .ok (.astore_n 3, 1) := by decide +kernel
theorem dX9_followKey_7 : decode cX9_followKey 7 = .ok (.aload_n 3, 1) := by decide +kernel
theorem dX9_followKey_8 : decode cX9_followKey 8 = .ok (.ifnonnull 5, 3) := by decide +kernel
theorem dX9_followKey_11 : decode cX9_followKey 11 = .ok (.iconst 0, 1) := by decide +kernel
theorem dX9_followKey_12 : decode cX9_followKey 12 = .ok (.ireturn, 1) := by decide +kernel
theorem dX9_followKey_13 : decode cX9_followKey 13 = .ok (.aload_n 0, 1) := by decide +kernel
theorem dX9_followKey_14 : decode cX9_followKey 14 = .ok (.aload_n 3, 1) := by decide +kernel
theorem dX9_followKey_15 : decode cX9_followKey 15 = .ok (.invokevirtual 107, 3) := by decide +kernel
theorem dX9_followKey_18 : decode cX9_followKey 18 = .ok (.aload_n 3, 1) := by decide +kernel
theorem dX9_followKey_19 : decode cX9_followKey 19 = .ok (.invokevirtual 93, 3) := by decide +kernel
theorem dX9_followKey_22 : decode cX9_followKey 22 = .ok (.ifCond .eq 8, 3) := by decide +kernel
theorem dX9_followKey_25 : decode cX9_followKey 25 = .ok (.aload_n 0, 1) := by decide +kernel
theorem dX9_followKey_26 : decode cX9_followKey 26 = .ok (.aload_n 3, 1) := by decide +kernel
theorem dX9_followKey_27 : decode cX9_followKey 27 = .ok (.invokevirtual 147, 3) := by decide +kernel
theorem dX9_followKey_30 : decode cX9_followKey 30 = .ok (.iconst 1, 1) := by decide +kernel
theorem dX9_followKey_31 : decode cX9_followKey 31 = .ok (.ireturn, 1) := by decide +kernel
theorem dX10_init_0 : decode cX10_init 0 = .ok (.aload_n 0, 1) := by decide +kernel
theorem dX10_init_1 : decode cX10_init 1 = .ok (.invokespecial 3, 3) := by decide +kernel
theorem dX10_init_4 : decode cX10_init 4 = .ok (.aload_n 0, 1) := by decide +kernel
theorem dX10_init_5 : decode cX10_init 5 = .ok (.bipush 60, 2) := by decide +kernel
theorem dX10_init_7 : decode cX10_init 7 = .ok (.anewarray 9, 3) := by decide +kernel
theorem dX10_init_10 : decode cX10_init 10 = .ok (.putfield 11, 3) := by decide +kernel
theorem dX10_init_13 : decode cX10_init 13 = .ok (.aload_n 0, 1) := by decide +kernel
theorem dX10_init_14 : decode cX10_init 14 = .ok (.iconst (-1), 1) := by decide +kernel
theorem dX10_init_15 : decode cX10_init 15 = .ok (.putfield 17, 3) := by decide +kernel
theorem dX10_init_18 : decode cX10_init 18 = .ok (.aload_n 0, 1) := by decide +kernel
theorem dX10_init_19 : decode cX10_init 19 = .ok (.iconst (-1), 1) := by decide +kernel
theorem dX10_init_20 : decode cX10_init 20 = .ok (.putfield 21, 3) := by decide +kernel
theorem dX10_init_23 : decode cX10_init 23 = .ok (.aload_n 0, 1) := by decide +kernel
theorem dX10_init_24 : decode cX10_init 24 = .ok (.iconst (-1), 1) := by decide +kernel
theorem dX10_init_25 : decode cX10_init 25 = .ok (.putfield 24, 3) := by decide +kernel
theorem dX10_init_28 : decode cX10_init 28 = .ok (.aload_n 0, 1) := by decide +kernel
theorem dX10_init_29 : decode cX10_init 29 = .ok (.iconst (-1), 1) := by decide +kernel
theorem dX10_init_30 : decode cX10_init 30 = .ok (.putfield 27, 3) := by decide +kernel
theorem dX10_init_33 : decode cX10_init 33 = .ok (.aload_n 0, 1) := by decide +kernel
theorem dX10_init_34 : decode cX10_init 34 = .ok (.bipush 120, 2) := by decide +kernel
theorem dX10_init_36 : decode cX10_init 36 = .ok (.newarray .int, 2) := by decide +kernel
theorem dX10_init_38 : decode cX10_init 38 = .ok (.putfield 30, 3) := by decide +kernel
theorem dX10_init_41 : decode cX10_init 41 = .ok (.aload_n 0, 1) := by decide +kernel
theorem dX10_init_42 : decode cX10_init 42 = .ok (.bipush 120, 2) := by decide +kernel
theorem dX10_init_44 : decode cX10_init 44 = .ok (.newarray .int, 2) := by decide +kernel
theorem dX10_init_46 : decode cX10_init 46 = .ok (.putfield 34, 3) := by decide +kernel
theorem dX10_init_49 : decode cX10_init 49 = .ok (.aload_n 0, 1) := by decide +kernel
theorem dX10_init_50 : decode cX10_init 50 = .ok (.bipush 120, 2) := by decide +kernel
theorem dX10_init_52 : decode cX10_init 52 = .ok (.newarray .int, 2) := by decide +kernel
theorem dX10_init_54 : decode cX10_init 54 = .ok (.putfield 37, 3) := by decide +kernel
theorem dX10_init_57 : decode cX10_init 57 = .ok (.aload_n 0, 1) := by decide +kernel
theorem dX10_init_58 : decode cX10_init 58 = .ok (.bipush 120, 2) := by decide +kernel
theorem dX10_init_60 : decode cX10_init 60 = .ok (.newarray .int, 2) := by decide +kernel
theorem dX10_init_62 : decode cX10_init 62 = .ok (.putfield 40, 3) := by decide +kernel
theorem dX10_init_65 : decode cX10_init 65 = .ok (.aload_n 0, 1) := by decide +kernel
theorem dX10_init_66 : decode cX10_init 66 = .ok (.aload_n 1, 1) := by decide +kernel
theorem dX10_init_67 : decode cX10_init 67 = .ok (.putfield 43, 3) := by decide +kernel
theorem dX10_init_70 : decode cX10_init 70 = .ok (.aload_n 0, 1) := by decide +kernel
theorem dX10_init_71 : decode cX10_init 71 = .ok (.new 47, 3) := by decide +kernel
theorem dX10_init_74 : decode cX10_init 74 = .ok (.dup, 1) := by decide +kernel
theorem dX10_init_75 : decode cX10_init 75 = .ok (.aload_n 1, 1) := by decide +kernel
theorem dX10_init_76 : decode cX10_init 76 = .ok (.getfield 49, 3) := by decide +kernel
theorem dX10_init_79 : decode cX10_init 79 = .ok (.invokespecial 53, 3) := by decide +kernel
theorem dX10_init_82 : decode cX10_init 82 = .ok (.putfield 56, 3) := by decide +kernel
theorem dX10_init_85 : decode cX10_init 85 = .ok (.return_, 1) := by decide +kernel
theorem dX10_logged_0 : decode cX10_logged 0 = .ok (.iload_n 1, 1) := by decide +kernel
theorem dX10_logged_1 : decode cX10_logged 1 = .ok (.ifCond .lt 11, 3) := by decide +kernel
theorem dX10_logged_4 : decode cX10_logged 4 = .ok (.iload_n 1, 1) := by decide +kernel
theorem dX10_logged_5 : decode cX10_logged 5 = .ok (.aload_n 0, 1) := by decide +kernel
theorem dX10_logged_6 : decode cX10_logged 6 = .ok (.getfield 59, 3) := by decide +kernel
theorem dX10_logged_9 : decode cX10_logged 9 = .ok (.if_icmp .lt 5, 3) := by decide +kernel
theorem dX10_logged_12 : decode cX10_logged 12 = .ok (.iconst (-1), 1) := by decide +kernel
theorem dX10_logged_13 : decode cX10_logged 13 = .ok (.ireturn, 1) := by decide +kernel
theorem dX10_logged_14 : decode cX10_logged 14 = .ok (.iload_n 2, 1) := by decide +kernel
theorem dX10_logged_15 : decode cX10_logged 15 = .ok (.tableswitch 57 0 3 #[29, 36, 43, 50], 29) := by decide +kernel
theorem dX10_logged_44 : decode cX10_logged 44 = .ok (.aload_n 0, 1) := by decide +kernel
theorem dX10_logged_45 : decode cX10_logged 45 = .ok (.getfield 30, 3) := by decide +kernel
theorem dX10_logged_48 : decode cX10_logged 48 = .ok (.iload_n 1, 1) := by decide +kernel
theorem dX10_logged_49 : decode cX10_logged 49 = .ok (.iaload, 1) := by decide +kernel
theorem dX10_logged_50 : decode cX10_logged 50 = .ok (.ireturn, 1) := by decide +kernel
theorem dX10_logged_51 : decode cX10_logged 51 = .ok (.aload_n 0, 1) := by decide +kernel
theorem dX10_logged_52 : decode cX10_logged 52 = .ok (.getfield 34, 3) := by decide +kernel
theorem dX10_logged_55 : decode cX10_logged 55 = .ok (.iload_n 1, 1) := by decide +kernel
theorem dX10_logged_56 : decode cX10_logged 56 = .ok (.iaload, 1) := by decide +kernel
theorem dX10_logged_57 : decode cX10_logged 57 = .ok (.ireturn, 1) := by decide +kernel
theorem dX10_logged_58 : decode cX10_logged 58 = .ok (.aload_n 0, 1) := by decide +kernel
theorem dX10_logged_59 : decode cX10_logged 59 = .ok (.getfield 37, 3) := by decide +kernel
theorem dX10_logged_62 : decode cX10_logged 62 = .ok (.iload_n 1, 1) := by decide +kernel
theorem dX10_logged_63 : decode cX10_logged 63 = .ok (.iaload, 1) := by decide +kernel
theorem dX10_logged_64 : decode cX10_logged 64 = .ok (.ireturn, 1) := by decide +kernel
theorem dX10_logged_65 : decode cX10_logged 65 = .ok (.aload_n 0, 1) := by decide +kernel
theorem dX10_logged_66 : decode cX10_logged 66 = .ok (.getfield 40, 3) := by decide +kernel
theorem dX10_logged_69 : decode cX10_logged 69 = .ok (.iload_n 1, 1) := by decide +kernel
theorem dX10_logged_70 : decode cX10_logged 70 = .ok (.iaload, 1) := by decide +kernel
theorem dX10_logged_71 : decode cX10_logged 71 = .ok (.ireturn, 1) := by decide +kernel
theorem dX10_logged_72 : decode cX10_logged 72 = .ok (.iconst (-1), 1) := by decide +kernel
theorem dX10_logged_73 : decode cX10_logged 73 = .ok (.ireturn, 1) := by decide +kernel
theorem dX10_perform_0 : decode cX10_perform 0 = .ok (.aload_n 0, 1) := by decide +kernel
theorem dX10_perform_1 : decode cX10_perform 1 = .ok (.invokevirtual 62, 3) := by decide +kernel
theorem dX10_perform_4 : decode cX10_perform 4 = .ok (.aload_n 0, 1) := by decide +kernel
theorem dX10_perform_5 : decode cX10_perform 5 = .ok (.aload_n 1, 1) := by decide +kernel
theorem dX10_perform_6 : decode cX10_perform 6 = .ok (.invokevirtual 65, 3) := by decide +kernel
theorem dX10_perform_9 : decode cX10_perform 9 = .ok (.aload_n 0, 1) := by decide +kernel
theorem dX10_perform_10 : decode cX10_perform 10 = .ok (.iconst 2, 1) := by decide +kernel
theorem dX10_perform_11 : decode cX10_perform 11 = .ok (.invokevirtual 69, 3) := by decide +kernel
theorem dX10_perform_14 : decode cX10_perform 14 = .ok (.aload_n 0, 1) := by decide +kernel
theorem dX10_perform_15 : decode cX10_perform 15 = .ok (.iconst 1, 1) := by decide +kernel
theorem dX10_perform_16 : decode cX10_perform 16 = .ok (.invokevirtual 69, 3) := by decide +kernel
theorem dX10_perform_19 : decode cX10_perform 19 = .ok (.aload_n 0, 1) := by decide +kernel
theorem dX10_perform_20 : decode cX10_perform 20 = .ok (.getfield 56, 3) := by decide +kernel
theorem dX10_perform_23 : decode cX10_perform 23 = .ok (.aload_n 0, 1) := by decide +kernel
theorem dX10_perform_24 : decode cX10_perform 24 = .ok (.getfield 43, 3) := by decide +kernel
theorem dX10_perform_27 : decode cX10_perform 27 = .ok (.invokevirtual 73, 3) := by decide +kernel
theorem dX10_perform_30 : decode cX10_perform 30 = .ok (.aload_n 0, 1) := by decide +kernel
theorem dX10_perform_31 : decode cX10_perform 31 = .ok (.aload_n 1, 1) := by decide +kernel
theorem dX10_perform_32 : decode cX10_perform 32 = .ok (.invokevirtual 77, 3) := by decide +kernel
theorem dX10_perform_35 : decode cX10_perform 35 = .ok (.ifCond .eq 24, 3) := by decide +kernel
theorem dX10_perform_38 : decode cX10_perform 38 = .ok (.aload_n 0, 1) := by decide +kernel
theorem dX10_perform_39 : decode cX10_perform 39 = .ok (.invokevirtual 81, 3) := by decide +kernel
theorem dX10_perform_42 : decode cX10_perform 42 = .ok (.ifCond .eq 17, 3) := by decide +kernel
theorem dX10_perform_45 : decode cX10_perform 45 = .ok (.aload_n 0, 1) := by decide +kernel
theorem dX10_perform_46 : decode cX10_perform 46 = .ok (.invokevirtual 85, 3) := by decide +kernel
theorem dX10_perform_49 : decode cX10_perform 49 = .ok (.ifCond .eq 10, 3) := by decide +kernel
theorem dX10_perform_52 : decode cX10_perform 52 = .ok (.aload_n 0, 1) := by decide +kernel
theorem dX10_perform_53 : decode cX10_perform 53 = .ok (.invokevirtual 88, 3) := by decide +kernel
theorem dX10_perform_56 : decode cX10_perform 56 = .ok (.goto 14, 3) := by decide +kernel
theorem dX10_perform_59 : decode cX10_perform 59 = .ok (.aload_n 0, 1) := by decide +kernel
theorem dX10_perform_60 : decode cX10_perform 60 = .ok (.getfield 43, 3) := by decide +kernel
theorem dX10_perform_63 : decode cX10_perform 63 = .ok (.aload_n 0, 1) := by decide +kernel
theorem dX10_perform_64 : decode cX10_perform 64 = .ok (.getfield 56, 3) := by decide +kernel
theorem dX10_perform_67 : decode cX10_perform 67 = .ok (.invokevirtual 73, 3) := by decide +kernel
theorem dX10_perform_70 : decode cX10_perform 70 = .ok (.aload_n 0, 1) := by decide +kernel
theorem dX10_perform_71 : decode cX10_perform 71 = .ok (.getfield 91, 3) := by decide +kernel
theorem dX10_perform_74 : decode cX10_perform 74 = .ok (.iconst 2, 1) := by decide +kernel
theorem dX10_perform_75 : decode cX10_perform 75 = .ok (.if_icmp .ne 8, 3) := by decide +kernel
theorem dX10_perform_78 : decode cX10_perform 78 = .ok (.aload_n 1, 1) := by decide +kernel
theorem dX10_perform_79 : decode cX10_perform 79 = .ok (.iconst 0, 1) := by decide +kernel
theorem dX10_perform_80 : decode cX10_perform 80 = .ok (.putfield 94, 3) := by decide +kernel
theorem dX10_perform_83 : decode cX10_perform 83 = .ok (.aload_n 0, 1) := by decide +kernel
theorem dX10_perform_84 : decode cX10_perform 84 = .ok (.getfield 91, 3) := by decide +kernel
theorem dX10_perform_87 : decode cX10_perform 87 = .ok (.ireturn, 1) := by decide +kernel
theorem dX10_begin_0 : decode cX10_begin 0 = .ok (.aload_n 0, 1) := by decide +kernel
theorem dX10_begin_1 : decode cX10_begin 1 = .ok (.iconst 0, 1) := by decide +kernel
theorem dX10_begin_2 : decode cX10_begin 2 = .ok (.putfield 91, 3) := by decide +kernel
theorem dX10_begin_5 : decode cX10_begin 5 = .ok (.aload_n 0, 1) := by decide +kernel
theorem dX10_begin_6 : decode cX10_begin 6 = .ok (.iconst (-1), 1) := by decide +kernel
theorem dX10_begin_7 : decode cX10_begin 7 = .ok (.putfield 17, 3) := by decide +kernel
theorem dX10_begin_10 : decode cX10_begin 10 = .ok (.aload_n 0, 1) := by decide +kernel
theorem dX10_begin_11 : decode cX10_begin 11 = .ok (.iconst (-1), 1) := by decide +kernel
theorem dX10_begin_12 : decode cX10_begin 12 = .ok (.putfield 21, 3) := by decide +kernel
theorem dX10_begin_15 : decode cX10_begin 15 = .ok (.aload_n 0, 1) := by decide +kernel
theorem dX10_begin_16 : decode cX10_begin 16 = .ok (.iconst (-1), 1) := by decide +kernel
theorem dX10_begin_17 : decode cX10_begin 17 = .ok (.putfield 24, 3) := by decide +kernel
theorem dX10_begin_20 : decode cX10_begin 20 = .ok (.aload_n 0, 1) := by decide +kernel
theorem dX10_begin_21 : decode cX10_begin 21 = .ok (.iconst (-1), 1) := by decide +kernel
theorem dX10_begin_22 : decode cX10_begin 22 = .ok (.putfield 27, 3) := by decide +kernel
theorem dX10_begin_25 : decode cX10_begin 25 = .ok (.aload_n 0, 1) := by decide +kernel
theorem dX10_begin_26 : decode cX10_begin 26 = .ok (.iconst 0, 1) := by decide +kernel
theorem dX10_begin_27 : decode cX10_begin 27 = .ok (.putfield 59, 3) := by decide +kernel
theorem dX10_begin_30 : decode cX10_begin 30 = .ok (.return_, 1) := by decide +kernel
theorem dX10_arrange_0 : decode cX10_arrange 0 = .ok (.aload_n 0, 1) := by decide +kernel
theorem dX10_arrange_1 : decode cX10_arrange 1 = .ok (.iconst 0, 1) := by decide +kernel
theorem dX10_arrange_2 : decode cX10_arrange 2 = .ok (.putfield 100, 3) := by decide +kernel
theorem dX10_arrange_5 : decode cX10_arrange 5 = .ok (.iconst 0, 1) := by decide +kernel
theorem dX10_arrange_6 : decode cX10_arrange 6 = .ok (.istore_n 2, 1) := by decide +kernel
theorem dX10_arrange_7 : decode cX10_arrange 7 = .ok (.iload_n 2, 1) := by decide +kernel
theorem dX10_arrange_8 : decode cX10_arrange 8 = .ok (.aload_n 1, 1) := by decide +kernel
theorem dX10_arrange_9 : decode cX10_arrange 9 = .ok (.getfield 103, 3) := by decide +kernel
theorem dX10_arrange_12 : decode cX10_arrange 12 = .ok (.if_icmp .ge 108, 3) := by decide +kernel
theorem dX10_arrange_15 : decode cX10_arrange 15 = .ok (.aload_n 1, 1) := by decide +kernel
theorem dX10_arrange_16 : decode cX10_arrange 16 = .ok (.getfield 106, 3) := by decide +kernel
theorem dX10_arrange_19 : decode cX10_arrange 19 = .ok (.iload_n 2, 1) := by decide +kernel
theorem dX10_arrange_20 : decode cX10_arrange 20 = .ok (.aaload, 1) := by decide +kernel
theorem dX10_arrange_21 : decode cX10_arrange 21 = .ok (.astore_n 3, 1) := by decide +kernel
theorem dX10_arrange_22 : decode cX10_arrange 22 = .ok (.aload_n 3, 1) := by decide +kernel
theorem dX10_arrange_23 : decode cX10_arrange 23 = .ok (.iconst 0, 1) := by decide +kernel
theorem dX10_arrange_24 : decode cX10_arrange 24 = .ok (.putfield 109, 3) := by decide +kernel
theorem dX10_arrange_27 : decode cX10_arrange 27 = .ok (.aload_n 3, 1) := by decide +kernel
theorem dX10_arrange_28 : decode cX10_arrange 28 = .ok (.iconst 0, 1) := by decide +kernel
theorem dX10_arrange_29 : decode cX10_arrange 29 = .ok (.putfield 112, 3) := by decide +kernel
theorem dX10_arrange_32 : decode cX10_arrange 32 = .ok (.aload_n 3, 1) := by decide +kernel
theorem dX10_arrange_33 : decode cX10_arrange 33 = .ok (.invokevirtual 115, 3) := by decide +kernel
theorem dX10_arrange_36 : decode cX10_arrange 36 = .ok (.ifCond .ne 11, 3) := by decide +kernel
theorem dX10_arrange_39 : decode cX10_arrange 39 = .ok (.aload_n 3, 1) := by decide +kernel
theorem dX10_arrange_40 : decode cX10_arrange 40 = .ok (.getfield 118, 3) := by decide +kernel
theorem dX10_arrange_43 : decode cX10_arrange 43 = .ok (.iconst 3, 1) := by decide +kernel
theorem dX10_arrange_44 : decode cX10_arrange 44 = .ok (.if_icmp .ne 70, 3) := by decide +kernel
theorem dX10_arrange_47 : decode cX10_arrange 47 = .ok (.aload_n 0, 1) := by decide +kernel
theorem dX10_arrange_48 : decode cX10_arrange 48 = .ok (.getfield 100, 3) := by decide +kernel
theorem dX10_arrange_51 : decode cX10_arrange 51 = .ok (.istore 4, 2) := by decide +kernel
theorem dX10_arrange_53 : decode cX10_arrange 53 = .ok (.iload 4, 2) := by decide +kernel
theorem dX10_arrange_55 : decode cX10_arrange 55 = .ok (.ifCond .le 41, 3) := by decide +kernel
theorem dX10_arrange_58 : decode cX10_arrange 58 = .ok (.aload_n 3, 1) := by decide +kernel
theorem dX10_arrange_59 : decode cX10_arrange 59 = .ok (.aload_n 0, 1) := by decide +kernel
theorem dX10_arrange_60 : decode cX10_arrange 60 = .ok (.getfield 11, 3) := by decide +kernel
theorem dX10_arrange_63 : decode cX10_arrange 63 = .ok (.iload 4, 2) := by decide +kernel
theorem dX10_arrange_65 : decode cX10_arrange 65 = .ok (.iconst 1, 1) := by decide +kernel
theorem dX10_arrange_66 : decode cX10_arrange 66 = .ok (.isub, 1) := by decide +kernel
theorem dX10_arrange_67 : decode cX10_arrange 67 = .ok (.aaload, 1) := by decide +kernel
theorem dX10_arrange_68 : decode cX10_arrange 68 = .ok (.invokevirtual 121, 3) := by decide +kernel
theorem dX10_arrange_71 : decode cX10_arrange 71 = .ok (.ifCond .eq 25, 3) := by decide +kernel
theorem dX10_arrange_74 : decode cX10_arrange 74 = .ok (.aload_n 0, 1) := by decide +kernel
theorem dX10_arrange_75 : decode cX10_arrange 75 = .ok (.getfield 11, 3) := by decide +kernel
theorem dX10_arrange_78 : decode cX10_arrange 78 = .ok (.iload 4, 2) := by decide +kernel
theorem dX10_arrange_80 : decode cX10_arrange 80 = .ok (.aload_n 0, 1) := by decide +kernel
theorem dX10_arrange_81 : decode cX10_arrange 81 = .ok (.getfield 11, 3) := by decide +kernel
theorem dX10_arrange_84 : decode cX10_arrange 84 = .ok (.iload 4, 2) := by decide +kernel
theorem dX10_arrange_86 : decode cX10_arrange 86 = .ok (.iconst 1, 1) := by decide +kernel
theorem dX10_arrange_87 : decode cX10_arrange 87 = .ok (.isub, 1) := by decide +kernel
theorem dX10_arrange_88 : decode cX10_arrange 88 = .ok (.aaload, 1) := by decide +kernel
theorem dX10_arrange_89 : decode cX10_arrange 89 = .ok (.aastore, 1) := by decide +kernel
theorem dX10_arrange_90 : decode cX10_arrange 90 = .ok (.iinc 4 (-1), 3) := by decide +kernel
theorem dX10_arrange_93 : decode cX10_arrange 93 = .ok (.goto (-40), 3) := by decide +kernel
theorem dX10_arrange_96 : decode cX10_arrange 96 = .ok (.aload_n 0, 1) := by decide +kernel
theorem dX10_arrange_97 : decode cX10_arrange 97 = .ok (.getfield 11, 3) := by decide +kernel
theorem dX10_arrange_100 : decode cX10_arrange 100 = .ok (.iload 4, 2) := by decide +kernel
theorem dX10_arrange_102 : decode cX10_arrange 102 = .ok (.aload_n 3, 1) := by decide +kernel
theorem dX10_arrange_103 : decode cX10_arrange 103 = .ok (.aastore, 1) := by decide +kernel
theorem dX10_arrange_104 : decode cX10_arrange 104 = .ok (.aload_n 0, 1) := by decide +kernel
theorem dX10_arrange_105 : decode cX10_arrange 105 = .ok (.dup, 1) := by decide +kernel
theorem dX10_arrange_106 : decode cX10_arrange 106 = .ok (.getfield 100, 3) := by decide +kernel
theorem dX10_arrange_109 : decode cX10_arrange 109 = .ok (.iconst 1, 1) := by decide +kernel
theorem dX10_arrange_110 : decode cX10_arrange 110 = .ok (.iadd, 1) := by decide +kernel
theorem dX10_arrange_111 : decode cX10_arrange 111 = .ok (.putfield 100, 3) := by decide +kernel
theorem dX10_arrange_114 : decode cX10_arrange 114 = .ok (.iinc 2 1, 3) := by decide +kernel
theorem dX10_arrange_117 : decode cX10_arrange 117 = .ok (.goto (-110), 3) := by decide +kernel
theorem dX10_arrange_120 : decode cX10_arrange 120 = .ok (.return_, 1) := by decide +kernel
theorem dX10_runHooks_0 : decode cX10_runHooks 0 = .ok (.iconst 0, 1) := by decide +kernel
theorem dX10_runHooks_1 : decode cX10_runHooks 1 = .ok (.istore_n 2, 1) := by decide +kernel
theorem dX10_runHooks_2 : decode cX10_runHooks 2 = .ok (.iload_n 2, 1) := by decide +kernel
theorem dX10_runHooks_3 : decode cX10_runHooks 3 = .ok (.aload_n 0, 1) := by decide +kernel
theorem dX10_runHooks_4 : decode cX10_runHooks 4 = .ok (.getfield 100, 3) := by decide +kernel
theorem dX10_runHooks_7 : decode cX10_runHooks 7 = .ok (.if_icmp .ge 57, 3) := by decide +kernel
theorem dX10_runHooks_10 : decode cX10_runHooks 10 = .ok (.aload_n 0, 1) := by decide +kernel
theorem dX10_runHooks_11 : decode cX10_runHooks 11 = .ok (.getfield 11, 3) := by decide +kernel
theorem dX10_runHooks_14 : decode cX10_runHooks 14 = .ok (.iload_n 2, 1) := by decide +kernel
theorem dX10_runHooks_15 : decode cX10_runHooks 15 = .ok (.aaload, 1) := by decide +kernel
theorem dX10_runHooks_16 : decode cX10_runHooks 16 = .ok (.astore_n 3, 1) := by decide +kernel
theorem dX10_runHooks_17 : decode cX10_runHooks 17 = .ok (.aload_n 3, 1) := by decide +kernel
theorem dX10_runHooks_18 : decode cX10_runHooks 18 = .ok (.getfield 118, 3) := by decide +kernel
theorem dX10_runHooks_21 : decode cX10_runHooks 21 = .ok (.iload_n 1, 1) := by decide +kernel
theorem dX10_runHooks_22 : decode cX10_runHooks 22 = .ok (.if_icmp .ne 36, 3) := by decide +kernel
theorem dX10_runHooks_25 : decode cX10_runHooks 25 = .ok (.iload_n 1, 1) := by decide +kernel
theorem dX10_runHooks_26 : decode cX10_runHooks 26 = .ok (.iconst 2, 1) := by decide +kernel
theorem dX10_runHooks_27 : decode cX10_runHooks 27 = .ok (.if_icmp .eq 10, 3) := by decide +kernel
theorem dX10_runHooks_30 : decode cX10_runHooks 30 = .ok (.aload_n 3, 1) := by decide +kernel
theorem dX10_runHooks_31 : decode cX10_runHooks 31 = .ok (.invokevirtual 125, 3) := by decide +kernel
theorem dX10_runHooks_34 : decode cX10_runHooks 34 = .ok (.ifCond .eq 24, 3) := by decide +kernel
theorem dX10_runHooks_37 : decode cX10_runHooks 37 = .ok (.aload_n 0, 1) := by decide +kernel
theorem dX10_runHooks_38 : decode cX10_runHooks 38 = .ok (.getfield 43, 3) := by decide +kernel
theorem dX10_runHooks_41 : decode cX10_runHooks 41 = .ok (.getfield 49, 3) := by decide +kernel
theorem dX10_runHooks_44 : decode cX10_runHooks 44 = .ok (.aload_n 3, 1) := by decide +kernel
theorem dX10_runHooks_45 : decode cX10_runHooks 45 = .ok (.iload_n 1, 1) := by decide +kernel
theorem dX10_runHooks_46 : decode cX10_runHooks 46 = .ok (.iconst 2, 1) := by decide +kernel
theorem dX10_runHooks_47 : decode cX10_runHooks 47 = .ok (.if_icmp .ne 7, 3) := by decide +kernel
theorem dX10_runHooks_50 : decode cX10_runHooks 50 = .ok (.iconst 1, 1) := by decide +kernel
theorem dX10_runHooks_51 : decode cX10_runHooks 51 = .ok (.goto 4, 3) := by decide +kernel
theorem dX10_runHooks_54 : decode cX10_runHooks 54 = .ok (.iconst 0, 1) := by decide +kernel
theorem dX10_runHooks_55 : decode cX10_runHooks 55 = .ok (.invokevirtual 129, 3) := by decide +kernel
theorem dX10_runHooks_58 : decode cX10_runHooks 58 = .ok (.iinc 2 1, 3) := by decide +kernel
theorem dX10_runHooks_61 : decode cX10_runHooks 61 = .ok (.goto (-59), 3) := by decide +kernel
theorem dX10_runHooks_64 : decode cX10_runHooks 64 = .ok (.return_, 1) := by decide +kernel
theorem dX10_countIn_0 : decode cX10_countIn 0 = .ok (.iconst 0, 1) := by decide +kernel
theorem dX10_countIn_1 : decode cX10_countIn 1 = .ok (.istore_n 2, 1) := by decide +kernel
theorem dX10_countIn_2 : decode cX10_countIn 2 = .ok (.iconst 0, 1) := by decide +kernel
theorem dX10_countIn_3 : decode cX10_countIn 3 = .ok (.istore_n 3, 1) := by decide +kernel
theorem dX10_countIn_4 : decode cX10_countIn 4 = .ok (.iload_n 3, 1) := by decide +kernel
theorem dX10_countIn_5 : decode cX10_countIn 5 = .ok (.aload_n 0, 1) := by decide +kernel
theorem dX10_countIn_6 : decode cX10_countIn 6 = .ok (.getfield 100, 3) := by decide +kernel
theorem dX10_countIn_9 : decode cX10_countIn 9 = .ok (.if_icmp .ge 25, 3) := by decide +kernel
theorem dX10_countIn_12 : decode cX10_countIn 12 = .ok (.aload_n 0, 1) := by decide +kernel
theorem dX10_countIn_13 : decode cX10_countIn 13 = .ok (.getfield 11, 3) := by decide +kernel
theorem dX10_countIn_16 : decode cX10_countIn 16 = .ok (.iload_n 3, 1) := by decide +kernel
theorem dX10_countIn_17 : decode cX10_countIn 17 = .ok (.aaload, 1) := by decide +kernel
theorem dX10_countIn_18 : decode cX10_countIn 18 = .ok (.getfield 118, 3) := by decide +kernel
theorem dX10_countIn_21 : decode cX10_countIn 21 = .ok (.iload_n 1, 1) := by decide +kernel
theorem dX10_countIn_22 : decode cX10_countIn 22 = .ok (.if_icmp .ne 6, 3) := by decide +kernel
theorem dX10_countIn_25 : decode cX10_countIn 25 = .ok (.iinc 2 1, 3) := by decide +kernel
theorem dX10_countIn_28 : decode cX10_countIn 28 = .ok (.iinc 3 1, 3) := by decide +kernel
theorem dX10_countIn_31 : decode cX10_countIn 31 = .ok (.goto (-27), 3) := by decide +kernel
theorem dX10_countIn_34 : decode cX10_countIn 34 = .ok (.iload_n 2, 1) := by decide +kernel
theorem dX10_countIn_35 : decode cX10_countIn 35 = .ok (.ireturn, 1) := by decide +kernel
theorem dX10_firstUnwritten_0 : decode cX10_firstUnwritten 0 = .ok (.iconst 0, 1) := by decide +kernel
theorem dX10_firstUnwritten_1 : decode cX10_firstUnwritten 1 = .ok (.istore_n 2, 1) := by decide +kernel
theorem dX10_firstUnwritten_2 : decode cX10_firstUnwritten 2 = .ok (.iload_n 2, 1) := by decide +kernel
theorem dX10_firstUnwritten_3 : decode cX10_firstUnwritten 3 = .ok (.aload_n 0, 1) := by decide +kernel
theorem dX10_firstUnwritten_4 : decode cX10_firstUnwritten 4 = .ok (.getfield 100, 3) := by decide +kernel
theorem dX10_firstUnwritten_7 : decode cX10_firstUnwritten 7 = .ok (.if_icmp .ge 41, 3) := by decide +kernel
theorem dX10_firstUnwritten_10 : decode cX10_firstUnwritten 10 = .ok (.aload_n 0, 1) := by decide +kernel
theorem dX10_firstUnwritten_11 : decode cX10_firstUnwritten 11 = .ok (.getfield 11, 3) := by decide +kernel
theorem dX10_firstUnwritten_14 : decode cX10_firstUnwritten 14 = .ok (.iload_n 2, 1) := by decide +kernel
theorem dX10_firstUnwritten_15 : decode cX10_firstUnwritten 15 = .ok (.aaload, 1) := by decide +kernel
theorem dX10_firstUnwritten_16 : decode cX10_firstUnwritten 16 = .ok (.getfield 118, 3) := by decide +kernel
theorem dX10_firstUnwritten_19 : decode cX10_firstUnwritten 19 = .ok (.iload_n 1, 1) := by decide +kernel
theorem dX10_firstUnwritten_20 : decode cX10_firstUnwritten 20 = .ok (.if_icmp .ne 22, 3) := by decide +kernel
theorem dX10_firstUnwritten_23 : decode cX10_firstUnwritten 23 = .ok (.aload_n 0, 1) := by decide +kernel
theorem dX10_firstUnwritten_24 : decode cX10_firstUnwritten 24 = .ok (.getfield 11, 3) := by decide +kernel
theorem dX10_firstUnwritten_27 : decode cX10_firstUnwritten 27 = .ok (.iload_n 2, 1) := by decide +kernel
theorem dX10_firstUnwritten_28 : decode cX10_firstUnwritten 28 = .ok (.aaload, 1) := by decide +kernel
theorem dX10_firstUnwritten_29 : decode cX10_firstUnwritten 29 = .ok (.getfield 109, 3) := by decide +kernel
theorem dX10_firstUnwritten_32 : decode cX10_firstUnwritten 32 = .ok (.ifCond .ne 10, 3) := by decide +kernel
theorem dX10_firstUnwritten_35 : decode cX10_firstUnwritten 35 = .ok (.aload_n 0, 1) := by decide +kernel
theorem dX10_firstUnwritten_36 : decode cX10_firstUnwritten 36 = .ok (.getfield 11, 3) := by decide +kernel
theorem dX10_firstUnwritten_39 : decode cX10_firstUnwritten 39 = .ok (.iload_n 2, 1) := by decide +kernel
theorem dX10_firstUnwritten_40 : decode cX10_firstUnwritten 40 = .ok (.aaload, 1) := by decide +kernel
theorem dX10_firstUnwritten_41 : decode cX10_firstUnwritten 41 = .ok (.areturn, 1) := by decide +kernel
theorem dX10_firstUnwritten_42 : decode cX10_firstUnwritten 42 = .ok (.iinc 2 1, 3) := by decide +kernel
theorem dX10_firstUnwritten_45 : decode cX10_firstUnwritten 45 = .ok (.goto (-43), 3) := by decide +kernel
theorem dX10_firstUnwritten_48 : decode cX10_firstUnwritten 48 = .ok (.aconst_null, 1) := by decide +kernel
theorem dX10_firstUnwritten_49 : decode cX10_firstUnwritten 49 = .ok (.areturn, 1) := by decide +kernel
theorem dX10_insertAll_0 : decode cX10_insertAll 0 = .ok (.aload_n 0, 1) := by decide +kernel
theorem dX10_insertAll_1 : decode cX10_insertAll 1 = .ok (.iconst 2, 1) := by decide +kernel
theorem dX10_insertAll_2 : decode cX10_insertAll 2 = .ok (.invokevirtual 134, 3) := by decide +kernel
theorem dX10_insertAll_5 : decode cX10_insertAll 5 = .ok (.istore_n 2, 1) := by decide +kernel
theorem dX10_insertAll_6 : decode cX10_insertAll 6 = .ok (.iconst 0, 1) := by decide +kernel
theorem dX10_insertAll_7 : decode cX10_insertAll 7 = .ok (.istore_n 3, 1) := by decide +kernel
theorem dX10_insertAll_8 : decode cX10_insertAll 8 = .ok (.iload_n 3, 1) := by decide +kernel
theorem dX10_insertAll_9 : decode cX10_insertAll 9 = .ok (.iload_n 2, 1) := by decide +kernel
theorem dX10_insertAll_10 : decode cX10_insertAll 10 = .ok (.if_icmp .ge 45, 3) := by decide +kernel
theorem dX10_insertAll_13 : decode cX10_insertAll 13 = .ok (.aload_n 0, 1) := by decide +kernel
theorem dX10_insertAll_14 : decode cX10_insertAll 14 = .ok (.aload_n 1, 1) := by decide +kernel
theorem dX10_insertAll_15 : decode cX10_insertAll 15 = .ok (.invokevirtual 138, 3) := by decide +kernel
theorem dX10_insertAll_18 : decode cX10_insertAll 18 = .ok (.astore 4, 2) := by decide +kernel
theorem dX10_insertAll_20 : decode cX10_insertAll 20 = .ok (.aload 4, 2) := by decide +kernel
theorem dX10_insertAll_22 : decode cX10_insertAll 22 = .ok (.ifnonnull 16, 3) := by decide +kernel
theorem dX10_insertAll_25 : decode cX10_insertAll 25 = .ok (.aload_n 0, 1) := by decide +kernel
theorem dX10_insertAll_26 : decode cX10_insertAll 26 = .ok (.iconst 4, 1) := by decide +kernel
theorem dX10_insertAll_27 : decode cX10_insertAll 27 = .ok (.aload_n 0, 1) := by decide +kernel
theorem dX10_insertAll_28 : decode cX10_insertAll 28 = .ok (.iconst 2, 1) := by decide +kernel
theorem dX10_insertAll_29 : decode cX10_insertAll 29 = .ok (.invokevirtual 142, 3) := by decide +kernel
theorem dX10_insertAll_32 : decode cX10_insertAll 32 = .ok (.iconst (-1), 1) := by decide +kernel
theorem dX10_insertAll_33 : decode cX10_insertAll 33 = .ok (.iconst (-1), 1) := by decide +kernel
theorem dX10_insertAll_34 : decode cX10_insertAll 34 = .ok (.invokevirtual 146, 3) := by decide +kernel
theorem dX10_insertAll_37 : decode cX10_insertAll 37 = .ok (.ireturn, 1) := by decide +kernel
theorem dX10_insertAll_38 : decode cX10_insertAll 38 = .ok (.aload_n 0, 1) := by decide +kernel
theorem dX10_insertAll_39 : decode cX10_insertAll 39 = .ok (.aload 4, 2) := by decide +kernel
theorem dX10_insertAll_41 : decode cX10_insertAll 41 = .ok (.invokevirtual 150, 3) := by decide +kernel
theorem dX10_insertAll_44 : decode cX10_insertAll 44 = .ok (.ifCond .ne 5, 3) := by decide +kernel
theorem dX10_insertAll_47 : decode cX10_insertAll 47 = .ok (.iconst 0, 1) := by decide +kernel
theorem dX10_insertAll_48 : decode cX10_insertAll 48 = .ok (.ireturn, 1) := by decide +kernel
theorem dX10_insertAll_49 : decode cX10_insertAll 49 = .ok (.iinc 3 1, 3) := by decide +kernel
theorem dX10_insertAll_52 : decode cX10_insertAll 52 = .ok (.goto (-44), 3) := by decide +kernel
theorem dX10_insertAll_55 : decode cX10_insertAll 55 = .ok (.iconst 1, 1) := by decide +kernel
theorem dX10_insertAll_56 : decode cX10_insertAll 56 = .ok (.ireturn, 1) := by decide +kernel
theorem dX10_nextInsert_0 : decode cX10_nextInsert 0 = .ok (.aconst_null, 1) := by decide +kernel
theorem dX10_nextInsert_1 : decode cX10_nextInsert 1 = .ok (.astore_n 2, 1) := by decide +kernel
theorem dX10_nextInsert_2 : decode cX10_nextInsert 2 = .ok (.iconst 0, 1) := by decide +kernel
theorem dX10_nextInsert_3 : decode cX10_nextInsert 3 = .ok (.istore_n 3, 1) := by decide +kernel
theorem dX10_nextInsert_4 : decode cX10_nextInsert 4 = .ok (.iconst 0, 1) := by decide +kernel
theorem dX10_nextInsert_5 : decode cX10_nextInsert 5 = .ok (.istore 4, 2) := by decide +kernel
theorem dX10_nextInsert_7 : decode cX10_nextInsert 7 = .ok (.iload 4, 2) := by decide +kernel
theorem dX10_nextInsert_9 : decode cX10_nextInsert 9 = .ok (.aload_n 0, 1) := by decide +kernel
theorem dX10_nextInsert_10 : decode cX10_nextInsert 10 = .ok (.getfield 100, 3) := by decide +kernel
theorem dX10_nextInsert_13 : decode cX10_nextInsert 13 = .ok (.if_icmp .ge 73, 3) := by decide +kernel
theorem dX10_nextInsert_16 : decode cX10_nextInsert 16 = .ok (.aload_n 0, 1) := by decide +kernel
theorem dX10_nextInsert_17 : decode cX10_nextInsert 17 = .ok (.getfield 11, 3) := by decide +kernel
theorem dX10_nextInsert_20 : decode cX10_nextInsert 20 = .ok (.iload 4, 2) := by decide +kernel
theorem dX10_nextInsert_22 : decode cX10_nextInsert 22 = .ok (.aaload, 1) := by decide +kernel
theorem dX10_nextInsert_23 : decode cX10_nextInsert 23 = .ok (.astore 5, 2) := by decide +kernel
theorem dX10_nextInsert_25 : decode cX10_nextInsert 25 = .ok (.aload 5, 2) := by decide +kernel
theorem dX10_nextInsert_27 : decode cX10_nextInsert 27 = .ok (.getfield 118, 3) := by decide +kernel
theorem dX10_nextInsert_30 : decode cX10_nextInsert 30 = .ok (.iconst 2, 1) := by decide +kernel
theorem dX10_nextInsert_31 : decode cX10_nextInsert 31 = .ok (.if_icmp .ne 49, 3) := by decide +kernel
theorem dX10_nextInsert_34 : decode cX10_nextInsert 34 = .ok (.aload 5, 2) := by decide +kernel
theorem dX10_nextInsert_36 : decode cX10_nextInsert 36 = .ok (.getfield 109, 3) := by decide +kernel
theorem dX10_nextInsert_39 : decode cX10_nextInsert 39 = .ok (.ifCond .ne 41, 3) := by decide +kernel
theorem dX10_nextInsert_42 : decode cX10_nextInsert 42 = .ok (.aload_n 0, 1) := by decide +kernel
theorem dX10_nextInsert_43 : decode cX10_nextInsert 43 = .ok (.aload_n 1, 1) := by decide +kernel
theorem dX10_nextInsert_44 : decode cX10_nextInsert 44 = .ok (.aload 5, 2) := by decide +kernel
theorem dX10_nextInsert_46 : decode cX10_nextInsert 46 = .ok (.invokevirtual 153, 3) := by decide +kernel
theorem dX10_nextInsert_49 : decode cX10_nextInsert 49 = .ok (.istore 6, 2) := by decide +kernel
theorem dX10_nextInsert_51 : decode cX10_nextInsert 51 = .ok (.iload 6, 2) := by decide +kernel
theorem dX10_nextInsert_53 : decode cX10_nextInsert 53 = .ok (.ifCond .ne 6, 3) := by decide +kernel
theorem dX10_nextInsert_56 : decode cX10_nextInsert 56 = .ok (.aload 5, 2) := by decide +kernel
theorem dX10_nextInsert_58 : decode cX10_nextInsert 58 = .ok (.areturn, 1) := by decide +kernel
theorem dX10_nextInsert_59 : decode cX10_nextInsert 59 = .ok (.aload_n 2, 1) := by decide +kernel
theorem dX10_nextInsert_60 : decode cX10_nextInsert 60 = .ok (.ifnonnull 20, 3) := by decide +kernel
theorem dX10_nextInsert_63 : decode cX10_nextInsert 63 = .ok (.aload_n 0, 1) := by decide +kernel
theorem dX10_nextInsert_64 : decode cX10_nextInsert 64 = .ok (.aload 5, 2) := by decide +kernel
theorem dX10_nextInsert_66 : decode cX10_nextInsert 66 = .ok (.iload 6, 2) := by decide +kernel
theorem dX10_nextInsert_68 : decode cX10_nextInsert 68 = .ok (.invokevirtual 157, 3) := by decide +kernel
theorem dX10_nextInsert_71 : decode cX10_nextInsert 71 = .ok (.ifCond .ne 9, 3) := by decide +kernel
theorem dX10_nextInsert_74 : decode cX10_nextInsert 74 = .ok (.aload 5, 2) := by decide +kernel
theorem dX10_nextInsert_76 : decode cX10_nextInsert 76 = .ok (.astore_n 2, 1) := by decide +kernel
theorem dX10_nextInsert_77 : decode cX10_nextInsert 77 = .ok (.iload 6, 2) := by decide +kernel
