theorem dX0_init_0 : decode cX0_init 0 = .ok (.aload_n 0, 1) := by decide +kernel
theorem dX0_init_1 : decode cX0_init 1 = .ok (.invokespecial 3, 3) := by decide +kernel
theorem dX0_init_4 : decode cX0_init 4 = .ok (.aload_n 0, 1) := by decide +kernel
theorem dX0_init_5 : decode cX0_init 5 = .ok (.aload_n 1, 1) := by decide +kernel
theorem dX0_init_6 : decode cX0_init 6 = .ok (.putfield 9, 3) := by decide +kernel
theorem dX0_init_9 : decode cX0_init 9 = .ok (.return_, 1) := by decide +kernel
theorem dX0_readClasses_0 : decode cX0_readClasses 0 = .ok (.aload_n 0, 1) := by decide +kernel
theorem dX0_readClasses_1 : decode cX0_readClasses 1 = .ok (.aload_n 1, 1) := by decide +kernel
theorem dX0_readClasses_2 : decode cX0_readClasses 2 = .ok (.putfield 15, 3) := by decide +kernel
theorem dX0_readClasses_5 : decode cX0_readClasses 5 = .ok (.aload_n 0, 1) := by decide +kernel
theorem dX0_readClasses_6 : decode cX0_readClasses 6 = .ok (.getfield 15, 3) := by decide +kernel
theorem dX0_readClasses_9 : decode cX0_readClasses 9 = .ok (.invokevirtual 19, 3) := by decide +kernel
theorem dX0_readClasses_12 : decode cX0_readClasses 12 = .ok (.aload_n 0, 1) := by decide +kernel
theorem dX0_readClasses_13 : decode cX0_readClasses 13 = .ok (.aconst_null, 1) := by decide +kernel
theorem dX0_readClasses_14 : decode cX0_readClasses 14 = .ok (.putfield 24, 3) := by decide +kernel
theorem dX0_readClasses_17 : decode cX0_readClasses 17 = .ok (.iconst 0, 1) := by decide +kernel
theorem dX0_readClasses_18 : decode cX0_readClasses 18 = .ok (.istore_n 2, 1) := by decide +kernel
theorem dX0_readClasses_19 : decode cX0_readClasses 19 = .ok (.iload_n 2, 1) := by decide +kernel
theorem dX0_readClasses_20 : decode cX0_readClasses 20 = .ok (.sipush 3000, 3) := by decide +kernel
theorem dX0_readClasses_23 : decode cX0_readClasses 23 = .ok (.if_icmp .gt 51, 3) := by decide +kernel
theorem dX0_readClasses_26 : decode cX0_readClasses 26 = .ok (.aload_n 0, 1) := by decide +kernel
theorem dX0_readClasses_27 : decode cX0_readClasses 27 = .ok (.getfield 24, 3) := by decide +kernel
theorem dX0_readClasses_30 : decode cX0_readClasses 30 = .ok (.ifnonnull 13, 3) := by decide +kernel
theorem dX0_readClasses_33 : decode cX0_readClasses 33 = .ok (.aload_n 0, 1) := by decide +kernel
theorem dX0_readClasses_34 : decode cX0_readClasses 34 = .ok (.getfield 9, 3) := by decide +kernel
theorem dX0_readClasses_37 : decode cX0_readClasses 37 = .ok (.invokevirtual 28, 3) := by decide +kernel
theorem dX0_readClasses_40 : decode cX0_readClasses 40 = .ok (.ifCond .ne 34, 3) := by decide +kernel
theorem dX0_readClasses_43 : decode cX0_readClasses 43 = .ok (.aload_n 0, 1) := by decide +kernel
theorem dX0_readClasses_44 : decode cX0_readClasses 44 = .ok (.getfield 24, 3) := by decide +kernel
theorem dX0_readClasses_47 : decode cX0_readClasses 47 = .ok (.ifnonnull 10, 3) := by decide +kernel
theorem dX0_readClasses_50 : decode cX0_readClasses 50 = .ok (.aload_n 0, 1) := by decide +kernel
theorem dX0_readClasses_51 : decode cX0_readClasses 51 = .ok (.invokevirtual 34, 3) := by decide +kernel
theorem dX0_readClasses_54 : decode cX0_readClasses 54 = .ok (.goto 7, 3) := by decide +kernel
theorem dX0_readClasses_57 : decode cX0_readClasses 57 = .ok (.aload_n 0, 1) := by decide +kernel
theorem dX0_readClasses_58 : decode cX0_readClasses 58 = .ok (.invokevirtual 37, 3) := by decide +kernel
theorem dX0_readClasses_61 : decode cX0_readClasses 61 = .ok (.istore_n 3, 1) := by decide +kernel
theorem dX0_readClasses_62 : decode cX0_readClasses 62 = .ok (.iload_n 3, 1) := by decide +kernel
theorem dX0_readClasses_63 : decode cX0_readClasses 63 = .ok (.ifCond .ne 5, 3) := by decide +kernel
theorem dX0_readClasses_66 : decode cX0_readClasses 66 = .ok (.iconst 0, 1) := by decide +kernel
theorem dX0_readClasses_67 : decode cX0_readClasses 67 = .ok (.ireturn, 1) := by decide +kernel
theorem dX0_readClasses_68 : decode cX0_readClasses 68 = .ok (.iinc 2 1, 3) := by decide +kernel
theorem dX0_readClasses_71 : decode cX0_readClasses 71 = .ok (.goto (-52), 3) := by decide +kernel
theorem dX0_readClasses_74 : decode cX0_readClasses 74 = .ok (.aload_n 0, 1) := by decide +kernel
theorem dX0_readClasses_75 : decode cX0_readClasses 75 = .ok (.invokevirtual 40, 3) := by decide +kernel
theorem dX0_readClasses_78 : decode cX0_readClasses 78 = .ok (.aload_n 0, 1) := by decide +kernel
theorem dX0_readClasses_79 : decode cX0_readClasses 79 = .ok (.invokevirtual 43, 3) := by decide +kernel
theorem dX0_readClasses_82 : decode cX0_readClasses 82 = .ok (.ireturn, 1) := by decide +kernel
theorem dX0_readHead_0 : decode cX0_readHead 0 = .ok (.aload_n 0, 1) := by decide +kernel
theorem dX0_readHead_1 : decode cX0_readHead 1 = .ok (.getfield 9, 3) := by decide +kernel
theorem dX0_readHead_4 : decode cX0_readHead 4 = .ok (.ldc2_w 46, 3) := by decide +kernel
theorem dX0_readHead_7 : decode cX0_readHead 7 = .ok (.invokevirtual 48, 3) := by decide +kernel
theorem dX0_readHead_10 : decode cX0_readHead 10 = .ok (.ifCond .ne 5, 3) := by decide +kernel
theorem dX0_readHead_13 : decode cX0_readHead 13 = .ok (.iconst 0, 1) := by decide +kernel
theorem dX0_readHead_14 : decode cX0_readHead 14 = .ok (.ireturn, 1) := by decide +kernel
theorem dX0_readHead_15 : decode cX0_readHead 15 = .ok (.aload_n 0, 1) := by decide +kernel
theorem dX0_readHead_16 : decode cX0_readHead 16 = .ok (.getfield 9, 3) := by decide +kernel
theorem dX0_readHead_19 : decode cX0_readHead 19 = .ok (.invokevirtual 52, 3) := by decide +kernel
theorem dX0_readHead_22 : decode cX0_readHead 22 = .ok (.ifCond .ne 11, 3) := by decide +kernel
theorem dX0_readHead_25 : decode cX0_readHead 25 = .ok (.aload_n 0, 1) := by decide +kernel
theorem dX0_readHead_26 : decode cX0_readHead 26 = .ok (.getfield 9, 3) := by decide +kernel
theorem dX0_readHead_29 : decode cX0_readHead 29 = .ok (.invokevirtual 55, 3) := by decide +kernel
theorem dX0_readHead_32 : decode cX0_readHead 32 = .ok (.ireturn, 1) := by decide +kernel
theorem dX0_readHead_33 : decode cX0_readHead 33 = .ok (.aload_n 0, 1) := by decide +kernel
theorem dX0_readHead_34 : decode cX0_readHead 34 = .ok (.getfield 9, 3) := by decide +kernel
theorem dX0_readHead_37 : decode cX0_readHead 37 = .ok (.invokevirtual 58, 3) := by decide +kernel
theorem dX0_readHead_40 : decode cX0_readHead 40 = .ok (.lstore_n 1, 1) := by decide +kernel
theorem dX0_readHead_41 : decode cX0_readHead 41 = .ok (.aload_n 0, 1) := by decide +kernel
theorem dX0_readHead_42 : decode cX0_readHead 42 = .ok (.getfield 15, 3) := by decide +kernel
theorem dX0_readHead_45 : decode cX0_readHead 45 = .ok (.lload_n 1, 1) := by decide +kernel
theorem dX0_readHead_46 : decode cX0_readHead 46 = .ok (.invokevirtual 62, 3) := by decide +kernel
theorem dX0_readHead_49 : decode cX0_readHead 49 = .ok (.iconst (-1), 1) := by decide +kernel
theorem dX0_readHead_50 : decode cX0_readHead 50 = .ok (.if_icmp .eq 12, 3) := by decide +kernel
theorem dX0_readHead_53 : decode cX0_readHead 53 = .ok (.aload_n 0, 1) := by decide +kernel
theorem dX0_readHead_54 : decode cX0_readHead 54 = .ok (.getfield 9, 3) := by decide +kernel
theorem dX0_readHead_57 : decode cX0_readHead 57 = .ok (.iconst 3, 1) := by decide +kernel
theorem dX0_readHead_58 : decode cX0_readHead 58 = .ok (.invokevirtual 66, 3) := by decide +kernel
theorem dX0_readHead_61 : decode cX0_readHead 61 = .ok (.ireturn, 1) := by decide +kernel
theorem dX0_readHead_62 : decode cX0_readHead 62 = .ok (.aload_n 0, 1) := by decide +kernel
theorem dX0_readHead_63 : decode cX0_readHead 63 = .ok (.getfield 15, 3) := by decide +kernel
theorem dX0_readHead_66 : decode cX0_readHead 66 = .ok (.getfield 70, 3) := by decide +kernel
theorem dX0_readHead_69 : decode cX0_readHead 69 = .ok (.bipush 12, 2) := by decide +kernel
theorem dX0_readHead_71 : decode cX0_readHead 71 = .ok (.if_icmp .lt 12, 3) := by decide +kernel
theorem dX0_readHead_74 : decode cX0_readHead 74 = .ok (.aload_n 0, 1) := by decide +kernel
theorem dX0_readHead_75 : decode cX0_readHead 75 = .ok (.getfield 9, 3) := by decide +kernel
theorem dX0_readHead_78 : decode cX0_readHead 78 = .ok (.iconst 4, 1) := by decide +kernel
theorem dX0_readHead_79 : decode cX0_readHead 79 = .ok (.invokevirtual 66, 3) := by decide +kernel
theorem dX0_readHead_82 : decode cX0_readHead 82 = .ok (.ireturn, 1) := by decide +kernel
theorem dX0_readHead_83 : decode cX0_readHead 83 = .ok (.aload_n 0, 1) := by decide +kernel
theorem dX0_readHead_84 : decode cX0_readHead 84 = .ok (.getfield 9, 3) := by decide +kernel
theorem dX0_readHead_87 : decode cX0_readHead 87 = .ok (.invokevirtual 74, 3) := by decide +kernel
theorem dX0_readHead_90 : decode cX0_readHead 90 = .ok (.aload_n 0, 1) := by decide +kernel
theorem dX0_readHead_91 : decode cX0_readHead 91 = .ok (.lload_n 1, 1) := by decide +kernel
theorem dX0_readHead_92 : decode cX0_readHead 92 = .ok (.invokevirtual 77, 3) := by decide +kernel
theorem dX0_readHead_95 : decode cX0_readHead 95 = .ok (.ireturn, 1) := by decide +kernel
theorem dX0_readOrigin_0 : decode cX0_readOrigin 0 = .ok (.iconst (-1), 1) := by decide +kernel
theorem dX0_readOrigin_1 : decode cX0_readOrigin 1 = .ok (.istore_n 3, 1) := by decide +kernel
theorem dX0_readOrigin_2 : decode cX0_readOrigin 2 = .ok (.iconst 0, 1) := by decide +kernel
theorem dX0_readOrigin_3 : decode cX0_readOrigin 3 = .ok (.istore 4, 2) := by decide +kernel
theorem dX0_readOrigin_5 : decode cX0_readOrigin 5 = .ok (.aload_n 0, 1) := by decide +kernel
theorem dX0_readOrigin_6 : decode cX0_readOrigin 6 = .ok (.getfield 9, 3) := by decide +kernel
theorem dX0_readOrigin_9 : decode cX0_readOrigin 9 = .ok (.ldc2_w 82, 3) := by decide +kernel
theorem dX0_readOrigin_12 : decode cX0_readOrigin 12 = .ok (.invokevirtual 84, 3) := by decide +kernel
theorem dX0_readOrigin_15 : decode cX0_readOrigin 15 = .ok (.ifCond .eq 60, 3) := by decide +kernel
theorem dX0_readOrigin_18 : decode cX0_readOrigin 18 = .ok (.aload_n 0, 1) := by decide +kernel
theorem dX0_readOrigin_19 : decode cX0_readOrigin 19 = .ok (.getfield 9, 3) := by decide +kernel
theorem dX0_readOrigin_22 : decode cX0_readOrigin 22 = .ok (.invokevirtual 52, 3) := by decide +kernel
theorem dX0_readOrigin_25 : decode cX0_readOrigin 25 = .ok (.ifCond .ne 11, 3) := by decide +kernel
theorem dX0_readOrigin_28 : decode cX0_readOrigin 28 = .ok (.aload_n 0, 1) := by decide +kernel
theorem dX0_readOrigin_29 : decode cX0_readOrigin 29 = .ok (.getfield 9, 3) := by decide +kernel
theorem dX0_readOrigin_32 : decode cX0_readOrigin 32 = .ok (.invokevirtual 55, 3) := by decide +kernel
theorem dX0_readOrigin_35 : decode cX0_readOrigin 35 = .ok (.ireturn, 1) := by decide +kernel
theorem dX0_readOrigin_36 : decode cX0_readOrigin 36 = .ok (.aload_n 0, 1) := by decide +kernel
theorem dX0_readOrigin_37 : decode cX0_readOrigin 37 = .ok (.getfield 15, 3) := by decide +kernel
theorem dX0_readOrigin_40 : decode cX0_readOrigin 40 = .ok (.aload_n 0, 1) := by decide +kernel
theorem dX0_readOrigin_41 : decode cX0_readOrigin 41 = .ok (.getfield 9, 3) := by decide +kernel
theorem dX0_readOrigin_44 : decode cX0_readOrigin 44 = .ok (.invokevirtual 58, 3) := by decide +kernel
theorem dX0_readOrigin_47 : decode cX0_readOrigin 47 = .ok (.invokevirtual 62, 3) := by decide +kernel
theorem dX0_readOrigin_50 : decode cX0_readOrigin 50 = .ok (.istore_n 3, 1) := by decide +kernel
theorem dX0_readOrigin_51 : decode cX0_readOrigin 51 = .ok (.iload_n 3, 1) := by decide +kernel
theorem dX0_readOrigin_52 : decode cX0_readOrigin 52 = .ok (.iconst (-1), 1) := by decide +kernel
theorem dX0_readOrigin_53 : decode cX0_readOrigin 53 = .ok (.if_icmp .ne 12, 3) := by decide +kernel
theorem dX0_readOrigin_56 : decode cX0_readOrigin 56 = .ok (.aload_n 0, 1) := by decide +kernel
theorem dX0_readOrigin_57 : decode cX0_readOrigin 57 = .ok (.getfield 9, 3) := by decide +kernel
theorem dX0_readOrigin_60 : decode cX0_readOrigin 60 = .ok (.iconst 3, 1) := by decide +kernel
theorem dX0_readOrigin_61 : decode cX0_readOrigin 61 = .ok (.invokevirtual 66, 3) := by decide +kernel
theorem dX0_readOrigin_64 : decode cX0_readOrigin 64 = .ok (.ireturn, 1) := by decide +kernel
theorem dX0_readOrigin_65 : decode cX0_readOrigin 65 = .ok (.aload_n 0, 1) := by decide +kernel
theorem dX0_readOrigin_66 : decode cX0_readOrigin 66 = .ok (.getfield 9, 3) := by decide +kernel
theorem dX0_readOrigin_69 : decode cX0_readOrigin 69 = .ok (.invokevirtual 74, 3) := by decide +kernel
theorem dX0_readOrigin_72 : decode cX0_readOrigin 72 = .ok (.goto 43, 3) := by decide +kernel
theorem dX0_readOrigin_75 : decode cX0_readOrigin 75 = .ok (.aload_n 0, 1) := by decide +kernel
theorem dX0_readOrigin_76 : decode cX0_readOrigin 76 = .ok (.getfield 9, 3) := by decide +kernel
theorem dX0_readOrigin_79 : decode cX0_readOrigin 79 = .ok (.ldc2_w 87, 3) := by decide +kernel
theorem dX0_readOrigin_82 : decode cX0_readOrigin 82 = .ok (.invokevirtual 84, 3) := by decide +kernel
theorem dX0_readOrigin_85 : decode cX0_readOrigin 85 = .ok (.ifCond .eq 30, 3) := by decide +kernel
theorem dX0_readOrigin_88 : decode cX0_readOrigin 88 = .ok (.aload_n 0, 1) := by decide +kernel
theorem dX0_readOrigin_89 : decode cX0_readOrigin 89 = .ok (.invokevirtual 89, 3) := by decide +kernel
theorem dX0_readOrigin_92 : decode cX0_readOrigin 92 = .ok (.istore 4, 2) := by decide +kernel
theorem dX0_readOrigin_94 : decode cX0_readOrigin 94 = .ok (.iload 4, 2) := by decide +kernel
theorem dX0_readOrigin_96 : decode cX0_readOrigin 96 = .ok (.iconst (-1), 1) := by decide +kernel
theorem dX0_readOrigin_97 : decode cX0_readOrigin 97 = .ok (.if_icmp .ne 11, 3) := by decide +kernel
theorem dX0_readOrigin_100 : decode cX0_readOrigin 100 = .ok (.aload_n 0, 1) := by decide +kernel
theorem dX0_readOrigin_101 : decode cX0_readOrigin 101 = .ok (.getfield 9, 3) := by decide +kernel
theorem dX0_readOrigin_104 : decode cX0_readOrigin 104 = .ok (.invokevirtual 55, 3) := by decide +kernel
theorem dX0_readOrigin_107 : decode cX0_readOrigin 107 = .ok (.ireturn, 1) := by decide +kernel
theorem dX0_readOrigin_108 : decode cX0_readOrigin 108 = .ok (.aload_n 0, 1) := by decide +kernel
theorem dX0_readOrigin_109 : decode cX0_readOrigin 109 = .ok (.getfield 9, 3) := by decide +kernel
theorem dX0_readOrigin_112 : decode cX0_readOrigin 112 = .ok (.invokevirtual 74, 3) := by decide +kernel
theorem dX0_readOrigin_115 : decode cX0_readOrigin 115 = .ok (.aload_n 0, 1) := by decide +kernel
theorem dX0_readOrigin_116 : decode cX0_readOrigin 116 = .ok (.getfield 9, 3) := by decide +kernel
theorem dX0_readOrigin_119 : decode cX0_readOrigin 119 = .ok (.ldc2_w 93, 3) := by decide +kernel
theorem dX0_readOrigin_122 : decode cX0_readOrigin 122 = .ok (.invokevirtual 48, 3) := by decide +kernel
theorem dX0_readOrigin_125 : decode cX0_readOrigin 125 = .ok (.ifCond .ne 5, 3) := by decide +kernel
theorem dX0_readOrigin_128 : decode cX0_readOrigin 128 = .ok (.iconst 0, 1) := by decide +kernel
theorem dX0_readOrigin_129 : decode cX0_readOrigin 129 = .ok (.ireturn, 1) := by decide +kernel
theorem dX0_readOrigin_130 : decode cX0_readOrigin 130 = .ok (.aload_n 0, 1) := by decide +kernel
theorem dX0_readOrigin_131 : decode cX0_readOrigin 131 = .ok (.aload_n 0, 1) := by decide +kernel
theorem dX0_readOrigin_132 : decode cX0_readOrigin 132 = .ok (.getfield 15, 3) := by decide +kernel
theorem dX0_readOrigin_135 : decode cX0_readOrigin 135 = .ok (.lload_n 1, 1) := by decide +kernel
theorem dX0_readOrigin_136 : decode cX0_readOrigin 136 = .ok (.iload_n 3, 1) := by decide +kernel
theorem dX0_readOrigin_137 : decode cX0_readOrigin 137 = .ok (.iload 4, 2) := by decide +kernel
theorem dX0_readOrigin_139 : decode cX0_readOrigin 139 = .ok (.invokevirtual 95, 3) := by decide +kernel
theorem dX0_readOrigin_142 : decode cX0_readOrigin 142 = .ok (.putfield 24, 3) := by decide +kernel
theorem dX0_readOrigin_145 : decode cX0_readOrigin 145 = .ok (.iconst 1, 1) := by decide +kernel
theorem dX0_readOrigin_146 : decode cX0_readOrigin 146 = .ok (.ireturn, 1) := by decide +kernel
theorem dX0_wayNow_0 : decode cX0_wayNow 0 = .ok (.aload_n 0, 1) := by decide +kernel
theorem dX0_wayNow_1 : decode cX0_wayNow 1 = .ok (.getfield 9, 3) := by decide +kernel
theorem dX0_wayNow_4 : decode cX0_wayNow 4 = .ok (.ldc2_w 99, 3) := by decide +kernel
theorem dX0_wayNow_7 : decode cX0_wayNow 7 = .ok (.invokevirtual 101, 3) := by decide +kernel
theorem dX0_wayNow_10 : decode cX0_wayNow 10 = .ok (.ifCond .eq 5, 3) := by decide +kernel
theorem dX0_wayNow_13 : decode cX0_wayNow 13 = .ok (.iconst 0, 1) := by decide +kernel
theorem dX0_wayNow_14 : decode cX0_wayNow 14 = .ok (.ireturn, 1) := by decide +kernel
theorem dX0_wayNow_15 : decode cX0_wayNow 15 = .ok (.aload_n 0, 1) := by decide +kernel
theorem dX0_wayNow_16 : decode cX0_wayNow 16 = .ok (.getfield 9, 3) := by decide +kernel
theorem dX0_wayNow_19 : decode cX0_wayNow 19 = .ok (.ldc2_w 104, 3) := by decide +kernel
theorem dX0_wayNow_22 : decode cX0_wayNow 22 = .ok (.invokevirtual 101, 3) := by decide +kernel
theorem dX0_wayNow_25 : decode cX0_wayNow 25 = .ok (.ifCond .eq 5, 3) := by decide +kernel
theorem dX0_wayNow_28 : decode cX0_wayNow 28 = .ok (.iconst 1, 1) := by decide +kernel
theorem dX0_wayNow_29 : decode cX0_wayNow 29 = .ok (.ireturn, 1) := by decide +kernel
theorem dX0_wayNow_30 : decode cX0_wayNow 30 = .ok (.aload_n 0, 1) := by decide +kernel
theorem dX0_wayNow_31 : decode cX0_wayNow 31 = .ok (.getfield 9, 3) := by decide +kernel
theorem dX0_wayNow_34 : decode cX0_wayNow 34 = .ok (.ldc2_w 106, 3) := by decide +kernel
theorem dX0_wayNow_37 : decode cX0_wayNow 37 = .ok (.invokevirtual 101, 3) := by decide +kernel
theorem dX0_wayNow_40 : decode cX0_wayNow 40 = .ok (.ifCond .eq 7, 3) := by decide +kernel
theorem dX0_wayNow_43 : decode cX0_wayNow 43 = .ok (.iconst 2, 1) := by decide +kernel
theorem dX0_wayNow_44 : decode cX0_wayNow 44 = .ok (.goto 4, 3) := by decide +kernel
theorem dX0_wayNow_47 : decode cX0_wayNow 47 = .ok (.iconst (-1), 1) := by decide +kernel
theorem dX0_wayNow_48 : decode cX0_wayNow 48 = .ok (.ireturn, 1) := by decide +kernel
theorem dX0_readPart_0 : decode cX0_readPart 0 = .ok (.aload_n 0, 1) := by decide +kernel
theorem dX0_readPart_1 : decode cX0_readPart 1 = .ok (.getfield 9, 3) := by decide +kernel
theorem dX0_readPart_4 : decode cX0_readPart 4 = .ok (.ldc2_w 108, 3) := by decide +kernel
theorem dX0_readPart_7 : decode cX0_readPart 7 = .ok (.invokevirtual 84, 3) := by decide +kernel
theorem dX0_readPart_10 : decode cX0_readPart 10 = .ok (.ifCond .eq 10, 3) := by decide +kernel
theorem dX0_readPart_13 : decode cX0_readPart 13 = .ok (.aload_n 0, 1) := by decide +kernel
theorem dX0_readPart_14 : decode cX0_readPart 14 = .ok (.aconst_null, 1) := by decide +kernel
theorem dX0_readPart_15 : decode cX0_readPart 15 = .ok (.putfield 24, 3) := by decide +kernel
theorem dX0_readPart_18 : decode cX0_readPart 18 = .ok (.iconst 1, 1) := by decide +kernel
theorem dX0_readPart_19 : decode cX0_readPart 19 = .ok (.ireturn, 1) := by decide +kernel
theorem dX0_readPart_20 : decode cX0_readPart 20 = .ok (.aload_n 0, 1) := by decide +kernel
theorem dX0_readPart_21 : decode cX0_readPart 21 = .ok (.getfield 9, 3) := by decide +kernel
theorem dX0_readPart_24 : decode cX0_readPart 24 = .ok (.ldc2_w 110, 3) := by decide +kernel
theorem dX0_readPart_27 : decode cX0_readPart 27 = .ok (.invokevirtual 101, 3) := by decide +kernel
theorem dX0_readPart_30 : decode cX0_readPart 30 = .ok (.ifCond .eq 10, 3) := by decide +kernel
theorem dX0_readPart_33 : decode cX0_readPart 33 = .ok (.aload_n 0, 1) := by decide +kernel
theorem dX0_readPart_34 : decode cX0_readPart 34 = .ok (.invokevirtual 112, 3) := by decide +kernel
theorem dX0_readPart_37 : decode cX0_readPart 37 = .ok (.goto 7, 3) := by decide +kernel
theorem dX0_readPart_40 : decode cX0_readPart 40 = .ok (.aload_n 0, 1) := by decide +kernel
theorem dX0_readPart_41 : decode cX0_readPart 41 = .ok (.invokevirtual 115, 3) := by decide +kernel
theorem dX0_readPart_44 : decode cX0_readPart 44 = .ok (.ireturn, 1) := by decide +kernel
theorem dX0_readHook_0 : decode cX0_readHook 0 = .ok (.aload_n 0, 1) := by decide +kernel
theorem dX0_readHook_1 : decode cX0_readHook 1 = .ok (.getfield 24, 3) := by decide +kernel
theorem dX0_readHook_4 : decode cX0_readHook 4 = .ok (.getfield 118, 3) := by decide +kernel
theorem dX0_readHook_7 : decode cX0_readHook 7 = .ok (.iconst 4, 1) := by decide +kernel
theorem dX0_readHook_8 : decode cX0_readHook 8 = .ok (.if_icmp .lt 12, 3) := by decide +kernel
theorem dX0_readHook_11 : decode cX0_readHook 11 = .ok (.aload_n 0, 1) := by decide +kernel
theorem dX0_readHook_12 : decode cX0_readHook 12 = .ok (.getfield 9, 3) := by decide +kernel
theorem dX0_readHook_15 : decode cX0_readHook 15 = .ok (.iconst 4, 1) := by decide +kernel
theorem dX0_readHook_16 : decode cX0_readHook 16 = .ok (.invokevirtual 66, 3) := by decide +kernel
theorem dX0_readHook_19 : decode cX0_readHook 19 = .ok (.ireturn, 1) := by decide +kernel
theorem dX0_readHook_20 : decode cX0_readHook 20 = .ok (.aload_n 0, 1) := by decide +kernel
theorem dX0_readHook_21 : decode cX0_readHook 21 = .ok (.getfield 9, 3) := by decide +kernel
theorem dX0_readHook_24 : decode cX0_readHook 24 = .ok (.invokevirtual 74, 3) := by decide +kernel
theorem dX0_readHook_27 : decode cX0_readHook 27 = .ok (.aload_n 0, 1) := by decide +kernel
theorem dX0_readHook_28 : decode cX0_readHook 28 = .ok (.getfield 9, 3) := by decide +kernel
theorem dX0_readHook_31 : decode cX0_readHook 31 = .ok (.ldc2_w 121, 3) := by decide +kernel
theorem dX0_readHook_34 : decode cX0_readHook 34 = .ok (.invokevirtual 84, 3) := by decide +kernel
theorem dX0_readHook_37 : decode cX0_readHook 37 = .ok (.istore_n 1, 1) := by decide +kernel
theorem dX0_readHook_38 : decode cX0_readHook 38 = .ok (.iload_n 1, 1) := by decide +kernel
theorem dX0_readHook_39 : decode cX0_readHook 39 = .ok (.ifCond .ne 18, 3) := by decide +kernel
theorem dX0_readHook_42 : decode cX0_readHook 42 = .ok (.aload_n 0, 1) := by decide +kernel
theorem dX0_readHook_43 : decode cX0_readHook 43 = .ok (.getfield 9, 3) := by decide +kernel
theorem dX0_readHook_46 : decode cX0_readHook 46 = .ok (.ldc2_w 123, 3) := by decide +kernel
theorem dX0_readHook_49 : decode cX0_readHook 49 = .ok (.invokevirtual 48, 3) := by decide +kernel
theorem dX0_readHook_52 : decode cX0_readHook 52 = .ok (.ifCond .ne 5, 3) := by decide +kernel
theorem dX0_readHook_55 : decode cX0_readHook 55 = .ok (.iconst 0, 1) := by decide +kernel
theorem dX0_readHook_56 : decode cX0_readHook 56 = .ok (.ireturn, 1) := by decide +kernel
theorem dX0_readHook_57 : decode cX0_readHook 57 = .ok (.aload_n 0, 1) := by decide +kernel
theorem dX0_readHook_58 : decode cX0_readHook 58 = .ok (.getfield 9, 3) := by decide +kernel
theorem dX0_readHook_61 : decode cX0_readHook 61 = .ok (.invokevirtual 52, 3) := by decide +kernel
theorem dX0_readHook_64 : decode cX0_readHook 64 = .ok (.ifCond .ne 11, 3) := by decide +kernel
theorem dX0_readHook_67 : decode cX0_readHook 67 = .ok (.aload_n 0, 1) := by decide +kernel
theorem dX0_readHook_68 : decode cX0_readHook 68 = .ok (.getfield 9, 3) := by decide +kernel
theorem dX0_readHook_71 : decode cX0_readHook 71 = .ok (.invokevirtual 55, 3) := by decide +kernel
theorem dX0_readHook_74 : decode cX0_readHook 74 = .ok (.ireturn, 1) := by decide +kernel
theorem dX0_readHook_75 : decode cX0_readHook 75 = .ok (.aload_n 0, 1) := by decide +kernel
theorem dX0_readHook_76 : decode cX0_readHook 76 = .ok (.getfield 24, 3) := by decide +kernel
theorem dX0_readHook_79 : decode cX0_readHook 79 = .ok (.aload_n 0, 1) := by decide +kernel
theorem dX0_readHook_80 : decode cX0_readHook 80 = .ok (.getfield 9, 3) := by decide +kernel
theorem dX0_readHook_83 : decode cX0_readHook 83 = .ok (.invokevirtual 58, 3) := by decide +kernel
theorem dX0_readHook_86 : decode cX0_readHook 86 = .ok (.invokevirtual 125, 3) := by decide +kernel
theorem dX0_readHook_89 : decode cX0_readHook 89 = .ok (.istore_n 2, 1) := by decide +kernel
theorem dX0_readHook_90 : decode cX0_readHook 90 = .ok (.iload_n 2, 1) := by decide +kernel
theorem dX0_readHook_91 : decode cX0_readHook 91 = .ok (.iconst (-1), 1) := by decide +kernel
theorem dX0_readHook_92 : decode cX0_readHook 92 = .ok (.if_icmp .eq 18, 3) := by decide +kernel
theorem dX0_readHook_95 : decode cX0_readHook 95 = .ok (.aload_n 0, 1) := by decide +kernel
theorem dX0_readHook_96 : decode cX0_readHook 96 = .ok (.getfield 24, 3) := by decide +kernel
theorem dX0_readHook_99 : decode cX0_readHook 99 = .ok (.getfield 128, 3) := by decide +kernel
theorem dX0_readHook_102 : decode cX0_readHook 102 = .ok (.iload_n 2, 1) := by decide +kernel
theorem dX0_readHook_103 : decode cX0_readHook 103 = .ok (.aaload, 1) := by decide +kernel
theorem dX0_readHook_104 : decode cX0_readHook 104 = .ok (.getfield 132, 3) := by decide +kernel
theorem dX0_readHook_107 : decode cX0_readHook 107 = .ok (.ifCond .eq 12, 3) := by decide +kernel
theorem dX0_readHook_110 : decode cX0_readHook 110 = .ok (.aload_n 0, 1) := by decide +kernel
theorem dX0_readHook_111 : decode cX0_readHook 111 = .ok (.getfield 9, 3) := by decide +kernel
theorem dX0_readHook_114 : decode cX0_readHook 114 = .ok (.iconst 3, 1) := by decide +kernel
theorem dX0_readHook_115 : decode cX0_readHook 115 = .ok (.invokevirtual 66, 3) := by decide +kernel
theorem dX0_readHook_118 : decode cX0_readHook 118 = .ok (.ireturn, 1) := by decide +kernel
theorem dX0_readHook_119 : decode cX0_readHook 119 = .ok (.aload_n 0, 1) := by decide +kernel
theorem dX0_readHook_120 : decode cX0_readHook 120 = .ok (.getfield 9, 3) := by decide +kernel
theorem dX0_readHook_123 : decode cX0_readHook 123 = .ok (.invokevirtual 74, 3) := by decide +kernel
theorem dX0_readHook_126 : decode cX0_readHook 126 = .ok (.aload_n 0, 1) := by decide +kernel
theorem dX0_readHook_127 : decode cX0_readHook 127 = .ok (.getfield 9, 3) := by decide +kernel
theorem dX0_readHook_130 : decode cX0_readHook 130 = .ok (.ldc2_w 137, 3) := by decide +kernel
theorem dX0_readHook_133 : decode cX0_readHook 133 = .ok (.invokevirtual 48, 3) := by decide +kernel
theorem dX0_readHook_136 : decode cX0_readHook 136 = .ok (.ifCond .ne 5, 3) := by decide +kernel
theorem dX0_readHook_139 : decode cX0_readHook 139 = .ok (.iconst 0, 1) := by decide +kernel
theorem dX0_readHook_140 : decode cX0_readHook 140 = .ok (.ireturn, 1) := by decide +kernel
theorem dX0_readHook_141 : decode cX0_readHook 141 = .ok (.aload_n 0, 1) := by decide +kernel
theorem dX0_readHook_142 : decode cX0_readHook 142 = .ok (.getfield 9, 3) := by decide +kernel
theorem dX0_readHook_145 : decode cX0_readHook 145 = .ok (.invokevirtual 139, 3) := by decide +kernel
theorem dX0_readHook_148 : decode cX0_readHook 148 = .ok (.ifCond .ne 11, 3) := by decide +kernel
theorem dX0_readHook_151 : decode cX0_readHook 151 = .ok (.aload_n 0, 1) := by decide +kernel
theorem dX0_readHook_152 : decode cX0_readHook 152 = .ok (.getfield 9, 3) := by decide +kernel
theorem dX0_readHook_155 : decode cX0_readHook 155 = .ok (.invokevirtual 55, 3) := by decide +kernel
theorem dX0_readHook_158 : decode cX0_readHook 158 = .ok (.ireturn, 1) := by decide +kernel
theorem dX0_readHook_159 : decode cX0_readHook 159 = .ok (.aload_n 0, 1) := by decide +kernel
theorem dX0_readHook_160 : decode cX0_readHook 160 = .ok (.getfield 24, 3) := by decide +kernel
theorem dX0_readHook_163 : decode cX0_readHook 163 = .ok (.getfield 142, 3) := by decide +kernel
theorem dX0_readHook_166 : decode cX0_readHook 166 = .ok (.aload_n 0, 1) := by decide +kernel
theorem dX0_readHook_167 : decode cX0_readHook 167 = .ok (.getfield 24, 3) := by decide +kernel
theorem dX0_readHook_170 : decode cX0_readHook 170 = .ok (.getfield 118, 3) := by decide +kernel
theorem dX0_readHook_173 : decode cX0_readHook 173 = .ok (.iload_n 1, 1) := by decide +kernel
theorem dX0_readHook_174 : decode cX0_readHook 174 = .ok (.bastore, 1) := by decide +kernel
theorem dX0_readHook_175 : decode cX0_readHook 175 = .ok (.aload_n 0, 1) := by decide +kernel
theorem dX0_readHook_176 : decode cX0_readHook 176 = .ok (.getfield 24, 3) := by decide +kernel
theorem dX0_readHook_179 : decode cX0_readHook 179 = .ok (.getfield 146, 3) := by decide +kernel
theorem dX0_readHook_182 : decode cX0_readHook 182 = .ok (.aload_n 0, 1) := by decide +kernel
theorem dX0_readHook_183 : decode cX0_readHook 183 = .ok (.getfield 24, 3) := by decide +kernel
theorem dX0_readHook_186 : decode cX0_readHook 186 = .ok (.getfield 118, 3) := by decide +kernel
theorem dX0_readHook_189 : decode cX0_readHook 189 = .ok (.iload_n 2, 1) := by decide +kernel
theorem dX0_readHook_190 : decode cX0_readHook 190 = .ok (.iastore, 1) := by decide +kernel
theorem dX0_readHook_191 : decode cX0_readHook 191 = .ok (.aload_n 0, 1) := by decide +kernel
theorem dX0_readHook_192 : decode cX0_readHook 192 = .ok (.getfield 24, 3) := by decide +kernel
theorem dX0_readHook_195 : decode cX0_readHook 195 = .ok (.getfield 150, 3) := by decide +kernel
theorem dX0_readHook_198 : decode cX0_readHook 198 = .ok (.aload_n 0, 1) := by decide +kernel
theorem dX0_readHook_199 : decode cX0_readHook 199 = .ok (.getfield 24, 3) := by decide +kernel
theorem dX0_readHook_202 : decode cX0_readHook 202 = .ok (.getfield 118, 3) := by decide +kernel
theorem dX0_readHook_205 : decode cX0_readHook 205 = .ok (.aload_n 0, 1) := by decide +kernel
theorem dX0_readHook_206 : decode cX0_readHook 206 = .ok (.getfield 9, 3) := by decide +kernel
theorem dX0_readHook_209 : decode cX0_readHook 209 = .ok (.invokevirtual 153, 3) := by decide +kernel
theorem dX0_readHook_212 : decode cX0_readHook 212 = .ok (.iastore, 1) := by decide +kernel
theorem dX0_readHook_213 : decode cX0_readHook 213 = .ok (.aload_n 0, 1) := by decide +kernel
theorem dX0_readHook_214 : decode cX0_readHook 214 = .ok (.getfield 24, 3) := by decide +kernel
theorem dX0_readHook_217 : decode cX0_readHook 217 = .ok (.dup, 1) := by decide +kernel
theorem dX0_readHook_218 : decode cX0_readHook 218 = .ok (.getfield 118, 3) := by decide +kernel
theorem dX0_readHook_221 : decode cX0_readHook 221 = .ok (.iconst 1, 1) := by decide +kernel
theorem dX0_readHook_222 : decode cX0_readHook 222 = .ok (.iadd, 1) := by decide +kernel
theorem dX0_readHook_223 : decode cX0_readHook 223 = .ok (.putfield 118, 3) := by decide +kernel
theorem dX0_readHook_226 : decode cX0_readHook 226 = .ok (.aload_n 0, 1) := by decide +kernel
theorem dX0_readHook_227 : decode cX0_readHook 227 = .ok (.getfield 9, 3) := by decide +kernel
theorem dX0_readHook_230 : decode cX0_readHook 230 = .ok (.invokevirtual 74, 3) := by decide +kernel
theorem dX0_readHook_233 : decode cX0_readHook 233 = .ok (.aload_n 0, 1) := by decide +kernel
theorem dX0_readHook_234 : decode cX0_readHook 234 = .ok (.getfield 9, 3) := by decide +kernel
theorem dX0_readHook_237 : decode cX0_readHook 237 = .ok (.ldc2_w 156, 3) := by decide +kernel
theorem dX0_readHook_240 : decode cX0_readHook 240 = .ok (.invokevirtual 48, 3) := by decide +kernel
theorem dX0_readHook_243 : decode cX0_readHook 243 = .ok (.ireturn, 1) := by decide +kernel
theorem dX0_readMember_0 : decode cX0_readMember 0 = .ok (.aload_n 0, 1) := by decide +kernel
theorem dX0_readMember_1 : decode cX0_readMember 1 = .ok (.getfield 9, 3) := by decide +kernel
theorem dX0_readMember_4 : decode cX0_readMember 4 = .ok (.invokevirtual 52, 3) := by decide +kernel
theorem dX0_readMember_7 : decode cX0_readMember 7 = .ok (.ifCond .ne 11, 3) := by decide +kernel
theorem dX0_readMember_10 : decode cX0_readMember 10 = .ok (.aload_n 0, 1) := by decide +kernel
theorem dX0_readMember_11 : decode cX0_readMember 11 = .ok (.getfield 9, 3) := by decide +kernel
theorem dX0_readMember_14 : decode cX0_readMember 14 = .ok (.invokevirtual 55, 3) := by decide +kernel
theorem dX0_readMember_17 : decode cX0_readMember 17 = .ok (.ireturn, 1) := by decide +kernel
theorem dX0_readMember_18 : decode cX0_readMember 18 = .ok (.aload_n 0, 1) := by decide +kernel
theorem dX0_readMember_19 : decode cX0_readMember 19 = .ok (.getfield 24, 3) := by decide +kernel
theorem dX0_readMember_22 : decode cX0_readMember 22 = .ok (.aload_n 0, 1) := by decide +kernel
theorem dX0_readMember_23 : decode cX0_readMember 23 = .ok (.getfield 9, 3) := by decide +kernel
theorem dX0_readMember_26 : decode cX0_readMember 26 = .ok (.invokevirtual 58, 3) := by decide +kernel
theorem dX0_readMember_29 : decode cX0_readMember 29 = .ok (.invokevirtual 125, 3) := by decide +kernel
theorem dX0_readMember_32 : decode cX0_readMember 32 = .ok (.iconst (-1), 1) := by decide +kernel
theorem dX0_readMember_33 : decode cX0_readMember 33 = .ok (.if_icmp .eq 12, 3) := by decide +kernel
theorem dX0_readMember_36 : decode cX0_readMember 36 = .ok (.aload_n 0, 1) := by decide +kernel
theorem dX0_readMember_37 : decode cX0_readMember 37 = .ok (.getfield 9, 3) := by decide +kernel
theorem dX0_readMember_40 : decode cX0_readMember 40 = .ok (.iconst 3, 1) := by decide +kernel
theorem dX0_readMember_41 : decode cX0_readMember 41 = .ok (.invokevirtual 66, 3) := by decide +kernel
theorem dX0_readMember_44 : decode cX0_readMember 44 = .ok (.ireturn, 1) := by decide +kernel
theorem dX0_readMember_45 : decode cX0_readMember 45 = .ok (.aload_n 0, 1) := by decide +kernel
theorem dX0_readMember_46 : decode cX0_readMember 46 = .ok (.getfield 24, 3) := by decide +kernel
theorem dX0_readMember_49 : decode cX0_readMember 49 = .ok (.getfield 158, 3) := by decide +kernel
theorem dX0_readMember_52 : decode cX0_readMember 52 = .ok (.bipush 16, 2) := by decide +kernel
theorem dX0_readMember_54 : decode cX0_readMember 54 = .ok (.if_icmp .lt 12, 3) := by decide +kernel
theorem dX0_readMember_57 : decode cX0_readMember 57 = .ok (.aload_n 0, 1) := by decide +kernel
theorem dX0_readMember_58 : decode cX0_readMember 58 = .ok (.getfield 9, 3) := by decide +kernel
theorem dX0_readMember_61 : decode cX0_readMember 61 = .ok (.iconst 4, 1) := by decide +kernel
theorem dX0_readMember_62 : decode cX0_readMember 62 = .ok (.invokevirtual 66, 3) := by decide +kernel
theorem dX0_readMember_65 : decode cX0_readMember 65 = .ok (.ireturn, 1) := by decide +kernel
theorem dX0_readMember_66 : decode cX0_readMember 66 = .ok (.aload_n 0, 1) := by decide +kernel
theorem dX0_readMember_67 : decode cX0_readMember 67 = .ok (.getfield 15, 3) := by decide +kernel
theorem dX0_readMember_70 : decode cX0_readMember 70 = .ok (.aload_n 0, 1) := by decide +kernel
theorem dX0_readMember_71 : decode cX0_readMember 71 = .ok (.getfield 24, 3) := by decide +kernel
theorem dX0_readMember_74 : decode cX0_readMember 74 = .ok (.aload_n 0, 1) := by decide +kernel
theorem dX0_readMember_75 : decode cX0_readMember 75 = .ok (.getfield 9, 3) := by decide +kernel
theorem dX0_readMember_78 : decode cX0_readMember 78 = .ok (.invokevirtual 58, 3) := by decide +kernel
theorem dX0_readMember_81 : decode cX0_readMember 81 = .ok (.invokevirtual 161, 3) := by decide +kernel
theorem dX0_readMember_84 : decode cX0_readMember 84 = .ok (.astore_n 1, 1) := by decide +kernel
theorem dX0_readMember_85 : decode cX0_readMember 85 = .ok (.aload_n 0, 1) := by decide +kernel
theorem dX0_readMember_86 : decode cX0_readMember 86 = .ok (.getfield 9, 3) := by decide +kernel
theorem dX0_readMember_89 : decode cX0_readMember 89 = .ok (.invokevirtual 74, 3) := by decide +kernel
theorem dX0_readMember_92 : decode cX0_readMember 92 = .ok (.aload_n 0, 1) := by decide +kernel
theorem dX0_readMember_93 : decode cX0_readMember 93 = .ok (.getfield 9, 3) := by decide +kernel
theorem dX0_readMember_96 : decode cX0_readMember 96 = .ok (.ldc2_w 165, 3) := by decide +kernel
theorem dX0_readMember_99 : decode cX0_readMember 99 = .ok (.invokevirtual 48, 3) := by decide +kernel
theorem dX0_readMember_102 : decode cX0_readMember 102 = .ok (.ifCond .eq 28, 3) := by decide +kernel
theorem dX0_readMember_105 : decode cX0_readMember 105 = .ok (.aload_n 0, 1) := by decide +kernel
theorem dX0_readMember_106 : decode cX0_readMember 106 = .ok (.aload_n 1, 1) := by decide +kernel
theorem dX0_readMember_107 : decode cX0_readMember 107 = .ok (.invokevirtual 167, 3) := by decide +kernel
theorem dX0_readMember_110 : decode cX0_readMember 110 = .ok (.ifCond .eq 20, 3) := by decide +kernel
theorem dX0_readMember_113 : decode cX0_readMember 113 = .ok (.aload_n 0, 1) := by decide +kernel
theorem dX0_readMember_114 : decode cX0_readMember 114 = .ok (.getfield 9, 3) := by decide +kernel
theorem dX0_readMember_117 : decode cX0_readMember 117 = .ok (.ldc2_w 156, 3) := by decide +kernel
theorem dX0_readMember_120 : decode cX0_readMember 120 = .ok (.invokevirtual 48, 3) := by decide +kernel
theorem dX0_readMember_123 : decode cX0_readMember 123 = .ok (.ifCond .eq 7, 3) := by decide +kernel
theorem dX0_readMember_126 : decode cX0_readMember 126 = .ok (.iconst 1, 1) := by decide +kernel
theorem dX0_readMember_127 : decode cX0_readMember 127 = .ok (.goto 4, 3) := by decide +kernel
theorem dX0_readMember_130 : decode cX0_readMember 130 = .ok (.iconst 0, 1) := by decide +kernel
theorem dX0_readMember_131 : decode cX0_readMember 131 = .ok (.ireturn, 1) := by decide +kernel
theorem dX0_readSort_0 : decode cX0_readSort 0 = .ok (.aload_n 0, 1) := by decide +kernel
theorem dX0_readSort_1 : decode cX0_readSort 1 = .ok (.getfield 9, 3) := by decide +kernel
theorem dX0_readSort_4 : decode cX0_readSort 4 = .ok (.ldc2_w 171, 3) := by decide +kernel
theorem dX0_readSort_7 : decode cX0_readSort 7 = .ok (.invokevirtual 84, 3) := by decide +kernel
theorem dX0_readSort_10 : decode cX0_readSort 10 = .ok (.ifCond .eq 9, 3) := by decide +kernel
theorem dX0_readSort_13 : decode cX0_readSort 13 = .ok (.aload_n 0, 1) := by decide +kernel
theorem dX0_readSort_14 : decode cX0_readSort 14 = .ok (.aload_n 1, 1) := by decide +kernel
theorem dX0_readSort_15 : decode cX0_readSort 15 = .ok (.invokevirtual 173, 3) := by decide +kernel
theorem dX0_readSort_18 : decode cX0_readSort 18 = .ok (.ireturn, 1) := by decide +kernel
theorem dX0_readSort_19 : decode cX0_readSort 19 = .ok (.aload_n 0, 1) := by decide +kernel
theorem dX0_readSort_20 : decode cX0_readSort 20 = .ok (.getfield 9, 3) := by decide +kernel
theorem dX0_readSort_23 : decode cX0_readSort 23 = .ok (.ldc2_w 176, 3) := by decide +kernel
theorem dX0_readSort_26 : decode cX0_readSort 26 = .ok (.invokevirtual 84, 3) := by decide +kernel
theorem dX0_readSort_29 : decode cX0_readSort 29 = .ok (.ifCond .eq 9, 3) := by decide +kernel
theorem dX0_readSort_32 : decode cX0_readSort 32 = .ok (.aload_n 0, 1) := by decide +kernel
theorem dX0_readSort_33 : decode cX0_readSort 33 = .ok (.aload_n 1, 1) := by decide +kernel
theorem dX0_readSort_34 : decode cX0_readSort 34 = .ok (.invokevirtual 178, 3) := by decide +kernel
theorem dX0_readSort_37 : decode cX0_readSort 37 = .ok (.ireturn, 1) := by decide +kernel
theorem dX0_readSort_38 : decode cX0_readSort 38 = .ok (.aload_n 0, 1) := by decide +kernel
theorem dX0_readSort_39 : decode cX0_readSort 39 = .ok (.getfield 9, 3) := by decide +kernel
theorem dX0_readSort_42 : decode cX0_readSort 42 = .ok (.ldc2_w 181, 3) := by decide +kernel
theorem dX0_readSort_45 : decode cX0_readSort 45 = .ok (.invokevirtual 84, 3) := by decide +kernel
theorem dX0_readSort_48 : decode cX0_readSort 48 = .ok (.ifCond .eq 11, 3) := by decide +kernel
theorem dX0_readSort_51 : decode cX0_readSort 51 = .ok (.aload_n 1, 1) := by decide +kernel
theorem dX0_readSort_52 : decode cX0_readSort 52 = .ok (.iconst 0, 1) := by decide +kernel
theorem dX0_readSort_53 : decode cX0_readSort 53 = .ok (.putfield 132, 3) := by decide +kernel
theorem dX0_readSort_56 : decode cX0_readSort 56 = .ok (.goto 68, 3) := by decide +kernel
theorem dX0_readSort_59 : decode cX0_readSort 59 = .ok (.aload_n 0, 1) := by decide +kernel
theorem dX0_readSort_60 : decode cX0_readSort 60 = .ok (.getfield 9, 3) := by decide +kernel
theorem dX0_readSort_63 : decode cX0_readSort 63 = .ok (.ldc2_w 183, 3) := by decide +kernel
theorem dX0_readSort_66 : decode cX0_readSort 66 = .ok (.invokevirtual 84, 3) := by decide +kernel
theorem dX0_readSort_69 : decode cX0_readSort 69 = .ok (.ifCond .eq 11, 3) := by decide +kernel
theorem dX0_readSort_72 : decode cX0_readSort 72 = .ok (.aload_n 1, 1) := by decide +kernel
theorem dX0_readSort_73 : decode cX0_readSort 73 = .ok (.iconst 1, 1) := by decide +kernel
theorem dX0_readSort_74 : decode cX0_readSort 74 = .ok (.putfield 132, 3) := by decide +kernel
theorem dX0_readSort_77 : decode cX0_readSort 77 = .ok (.goto 47, 3) := by decide +kernel
theorem dX0_readSort_80 : decode cX0_readSort 80 = .ok (.aload_n 0, 1) := by decide +kernel
theorem dX0_readSort_81 : decode cX0_readSort 81 = .ok (.getfield 9, 3) := by decide +kernel
theorem dX0_readSort_84 : decode cX0_readSort 84 = .ok (.ldc2_w 185, 3) := by decide +kernel
theorem dX0_readSort_87 : decode cX0_readSort 87 = .ok (.invokevirtual 84, 3) := by decide +kernel
theorem dX0_readSort_90 : decode cX0_readSort 90 = .ok (.ifCond .eq 11, 3) := by decide +kernel
theorem dX0_readSort_93 : decode cX0_readSort 93 = .ok (.aload_n 1, 1) := by decide +kernel
theorem dX0_readSort_94 : decode cX0_readSort 94 = .ok (.iconst 2, 1) := by decide +kernel
theorem dX0_readSort_95 : decode cX0_readSort 95 = .ok (.putfield 132, 3) := by decide +kernel
theorem dX0_readSort_98 : decode cX0_readSort 98 = .ok (.goto 26, 3) := by decide +kernel
theorem dX0_readSort_101 : decode cX0_readSort 101 = .ok (.aload_n 0, 1) := by decide +kernel
theorem dX0_readSort_102 : decode cX0_readSort 102 = .ok (.getfield 9, 3) := by decide +kernel
theorem dX0_readSort_105 : decode cX0_readSort 105 = .ok (.ldc2_w 187, 3) := by decide +kernel
theorem dX0_readSort_108 : decode cX0_readSort 108 = .ok (.invokevirtual 48, 3) := by decide +kernel
theorem dX0_readSort_111 : decode cX0_readSort 111 = .ok (.ifCond .eq 11, 3) := by decide +kernel
theorem dX0_readSort_114 : decode cX0_readSort 114 = .ok (.aload_n 0, 1) := by decide +kernel
theorem dX0_readSort_115 : decode cX0_readSort 115 = .ok (.aload_n 1, 1) := by decide +kernel
theorem dX0_readSort_116 : decode cX0_readSort 116 = .ok (.invokevirtual 189, 3) := by decide +kernel
theorem dX0_readSort_119 : decode cX0_readSort 119 = .ok (.ifCond .ne 5, 3) := by decide +kernel
theorem dX0_readSort_122 : decode cX0_readSort 122 = .ok (.iconst 0, 1) := by decide +kernel
theorem dX0_readSort_123 : decode cX0_readSort 123 = .ok (.ireturn, 1) := by decide +kernel
theorem dX0_readSort_124 : decode cX0_readSort 124 = .ok (.aload_n 0, 1) := by decide +kernel
theorem dX0_readSort_125 : decode cX0_readSort 125 = .ok (.aload_n 1, 1) := by decide +kernel
theorem dX0_readSort_126 : decode cX0_readSort 126 = .ok (.ldc2_w 192, 3) := by decide +kernel
theorem dX0_readSort_129 : decode cX0_readSort 129 = .ok (.iconst 1, 1) := by decide +kernel
theorem dX0_readSort_130 : decode cX0_readSort 130 = .ok (.invokevirtual 194, 3) := by decide +kernel
theorem dX0_readSort_133 : decode cX0_readSort 133 = .ok (.iconst 1, 1) := by decide +kernel
theorem dX0_readSort_134 : decode cX0_readSort 134 = .ok (.ireturn, 1) := by decide +kernel
theorem dX0_readNames_0 : decode cX0_readNames 0 = .ok (.aload_n 1, 1) := by decide +kernel
theorem dX0_readNames_1 : decode cX0_readNames 1 = .ok (.iconst 3, 1) := by decide +kernel
theorem dX0_readNames_2 : decode cX0_readNames 2 = .ok (.putfield 132, 3) := by decide +kernel
theorem dX0_readNames_5 : decode cX0_readNames 5 = .ok (.aload_n 1, 1) := by decide +kernel
theorem dX0_readNames_6 : decode cX0_readNames 6 = .ok (.aload_n 0, 1) := by decide +kernel
theorem dX0_readNames_7 : decode cX0_readNames 7 = .ok (.getfield 15, 3) := by decide +kernel
theorem dX0_readNames_10 : decode cX0_readNames 10 = .ok (.getfield 198, 3) := by decide +kernel
theorem dX0_readNames_13 : decode cX0_readNames 13 = .ok (.putfield 201, 3) := by decide +kernel
theorem dX0_readNames_16 : decode cX0_readNames 16 = .ok (.iconst 1, 1) := by decide +kernel
theorem dX0_readNames_17 : decode cX0_readNames 17 = .ok (.istore_n 2, 1) := by decide +kernel
theorem dX0_readNames_18 : decode cX0_readNames 18 = .ok (.iconst 0, 1) := by decide +kernel
theorem dX0_readNames_19 : decode cX0_readNames 19 = .ok (.istore_n 3, 1) := by decide +kernel
theorem dX0_readNames_20 : decode cX0_readNames 20 = .ok (.iload_n 3, 1) := by decide +kernel
theorem dX0_readNames_21 : decode cX0_readNames 21 = .ok (.aload_n 0, 1) := by decide +kernel
theorem dX0_readNames_22 : decode cX0_readNames 22 = .ok (.getfield 15, 3) := by decide +kernel
theorem dX0_readNames_25 : decode cX0_readNames 25 = .ok (.getfield 204, 3) := by decide +kernel
theorem dX0_readNames_28 : decode cX0_readNames 28 = .ok (.arraylength, 1) := by decide +kernel
theorem dX0_readNames_29 : decode cX0_readNames 29 = .ok (.if_icmp .ge 149, 3) := by decide +kernel
theorem dX0_readNames_32 : decode cX0_readNames 32 = .ok (.iload_n 2, 1) := by decide +kernel
theorem dX0_readNames_33 : decode cX0_readNames 33 = .ok (.ifCond .eq 145, 3) := by decide +kernel
theorem dX0_readNames_36 : decode cX0_readNames 36 = .ok (.aload_n 0, 1) := by decide +kernel
theorem dX0_readNames_37 : decode cX0_readNames 37 = .ok (.getfield 9, 3) := by decide +kernel
theorem dX0_readNames_40 : decode cX0_readNames 40 = .ok (.invokevirtual 52, 3) := by decide +kernel
theorem dX0_readNames_43 : decode cX0_readNames 43 = .ok (.ifCond .ne 11, 3) := by decide +kernel
theorem dX0_readNames_46 : decode cX0_readNames 46 = .ok (.aload_n 0, 1) := by decide +kernel
theorem dX0_readNames_47 : decode cX0_readNames 47 = .ok (.getfield 9, 3) := by decide +kernel
theorem dX0_readNames_50 : decode cX0_readNames 50 = .ok (.invokevirtual 55, 3) := by decide +kernel
theorem dX0_readNames_53 : decode cX0_readNames 53 = .ok (.ireturn, 1) := by decide +kernel
theorem dX0_readNames_54 : decode cX0_readNames 54 = .ok (.aload_n 0, 1) := by decide +kernel
theorem dX0_readNames_55 : decode cX0_readNames 55 = .ok (.getfield 15, 3) := by decide +kernel
theorem dX0_readNames_58 : decode cX0_readNames 58 = .ok (.aload_n 1, 1) := by decide +kernel
theorem dX0_readNames_59 : decode cX0_readNames 59 = .ok (.aload_n 0, 1) := by decide +kernel
theorem dX0_readNames_60 : decode cX0_readNames 60 = .ok (.getfield 9, 3) := by decide +kernel
theorem dX0_readNames_63 : decode cX0_readNames 63 = .ok (.invokevirtual 58, 3) := by decide +kernel
theorem dX0_readNames_66 : decode cX0_readNames 66 = .ok (.invokevirtual 208, 3) := by decide +kernel
theorem dX0_readNames_69 : decode cX0_readNames 69 = .ok (.iconst (-1), 1) := by decide +kernel
theorem dX0_readNames_70 : decode cX0_readNames 70 = .ok (.if_icmp .eq 12, 3) := by decide +kernel
theorem dX0_readNames_73 : decode cX0_readNames 73 = .ok (.aload_n 0, 1) := by decide +kernel
theorem dX0_readNames_74 : decode cX0_readNames 74 = .ok (.getfield 9, 3) := by decide +kernel
theorem dX0_readNames_77 : decode cX0_readNames 77 = .ok (.iconst 3, 1) := by decide +kernel
theorem dX0_readNames_78 : decode cX0_readNames 78 = .ok (.invokevirtual 66, 3) := by decide +kernel
theorem dX0_readNames_81 : decode cX0_readNames 81 = .ok (.ireturn, 1) := by decide +kernel
theorem dX0_readNames_82 : decode cX0_readNames 82 = .ok (.aload_n 0, 1) := by decide +kernel
theorem dX0_readNames_83 : decode cX0_readNames 83 = .ok (.getfield 15, 3) := by decide +kernel
theorem dX0_readNames_86 : decode cX0_readNames 86 = .ok (.getfield 198, 3) := by decide +kernel
theorem dX0_readNames_89 : decode cX0_readNames 89 = .ok (.aload_n 0, 1) := by decide +kernel
theorem dX0_readNames_90 : decode cX0_readNames 90 = .ok (.getfield 15, 3) := by decide +kernel
theorem dX0_readNames_93 : decode cX0_readNames 93 = .ok (.getfield 204, 3) := by decide +kernel
theorem dX0_readNames_96 : decode cX0_readNames 96 = .ok (.arraylength, 1) := by decide +kernel
theorem dX0_readNames_97 : decode cX0_readNames 97 = .ok (.if_icmp .lt 12, 3) := by decide +kernel
theorem dX0_readNames_100 : decode cX0_readNames 100 = .ok (.aload_n 0, 1) := by decide +kernel
theorem dX0_readNames_101 : decode cX0_readNames 101 = .ok (.getfield 9, 3) := by decide +kernel
theorem dX0_readNames_104 : decode cX0_readNames 104 = .ok (.iconst 4, 1) := by decide +kernel
theorem dX0_readNames_105 : decode cX0_readNames 105 = .ok (.invokevirtual 66, 3) := by decide +kernel
theorem dX0_readNames_108 : decode cX0_readNames 108 = .ok (.ireturn, 1) := by decide +kernel
theorem dX0_readNames_109 : decode cX0_readNames 109 = .ok (.aload_n 0, 1) := by decide +kernel
theorem dX0_readNames_110 : decode cX0_readNames 110 = .ok (.getfield 15, 3) := by decide +kernel
theorem dX0_readNames_113 : decode cX0_readNames 113 = .ok (.getfield 204, 3) := by decide +kernel
theorem dX0_readNames_116 : decode cX0_readNames 116 = .ok (.aload_n 0, 1) := by decide +kernel
theorem dX0_readNames_117 : decode cX0_readNames 117 = .ok (.getfield 15, 3) := by decide +kernel
theorem dX0_readNames_120 : decode cX0_readNames 120 = .ok (.getfield 198, 3) := by decide +kernel
theorem dX0_readNames_123 : decode cX0_readNames 123 = .ok (.aload_n 0, 1) := by decide +kernel
theorem dX0_readNames_124 : decode cX0_readNames 124 = .ok (.getfield 9, 3) := by decide +kernel
theorem dX0_readNames_127 : decode cX0_readNames 127 = .ok (.invokevirtual 58, 3) := by decide +kernel
theorem dX0_readNames_130 : decode cX0_readNames 130 = .ok (.lastore, 1) := by decide +kernel
theorem dX0_readNames_131 : decode cX0_readNames 131 = .ok (.aload_n 0, 1) := by decide +kernel
theorem dX0_readNames_132 : decode cX0_readNames 132 = .ok (.getfield 15, 3) := by decide +kernel
theorem dX0_readNames_135 : decode cX0_readNames 135 = .ok (.dup, 1) := by decide +kernel
theorem dX0_readNames_136 : decode cX0_readNames 136 = .ok (.getfield 198, 3) := by decide +kernel
theorem dX0_readNames_139 : decode cX0_readNames 139 = .ok (.iconst 1, 1) := by decide +kernel
theorem dX0_readNames_140 : decode cX0_readNames 140 = .ok (.iadd, 1) := by decide +kernel
theorem dX0_readNames_141 : decode cX0_readNames 141 = .ok (.putfield 198, 3) := by decide +kernel
theorem dX0_readNames_144 : decode cX0_readNames 144 = .ok (.aload_n 1, 1) := by decide +kernel
theorem dX0_readNames_145 : decode cX0_readNames 145 = .ok (.dup, 1) := by decide +kernel
theorem dX0_readNames_146 : decode cX0_readNames 146 = .ok (.getfield 212, 3) := by decide +kernel
theorem dX0_readNames_149 : decode cX0_readNames 149 = .ok (.iconst 1, 1) := by decide +kernel
theorem dX0_readNames_150 : decode cX0_readNames 150 = .ok (.iadd, 1) := by decide +kernel
theorem dX0_readNames_151 : decode cX0_readNames 151 = .ok (.putfield 212, 3) := by decide +kernel
theorem dX0_readNames_154 : decode cX0_readNames 154 = .ok (.aload_n 0, 1) := by decide +kernel
theorem dX0_readNames_155 : decode cX0_readNames 155 = .ok (.getfield 9, 3) := by decide +kernel
theorem dX0_readNames_158 : decode cX0_readNames 158 = .ok (.invokevirtual 74, 3) := by decide +kernel
theorem dX0_readNames_161 : decode cX0_readNames 161 = .ok (.aload_n 0, 1) := by decide +kernel
theorem dX0_readNames_162 : decode cX0_readNames 162 = .ok (.getfield 9, 3) := by decide +kernel
theorem dX0_readNames_165 : decode cX0_readNames 165 = .ok (.ldc2_w 215, 3) := by decide +kernel
theorem dX0_readNames_168 : decode cX0_readNames 168 = .ok (.invokevirtual 84, 3) := by decide +kernel
theorem dX0_readNames_171 : decode cX0_readNames 171 = .ok (.istore_n 2, 1) := by decide +kernel
theorem dX0_readNames_172 : decode cX0_readNames 172 = .ok (.iinc 3 1, 3) := by decide +kernel
theorem dX0_readNames_175 : decode cX0_readNames 175 = .ok (.goto (-155), 3) := by decide +kernel
theorem dX0_readNames_178 : decode cX0_readNames 178 = .ok (.aload_n 0, 1) := by decide +kernel
theorem dX0_readNames_179 : decode cX0_readNames 179 = .ok (.getfield 9, 3) := by decide +kernel
theorem dX0_readNames_182 : decode cX0_readNames 182 = .ok (.ldc2_w 217, 3) := by decide +kernel
theorem dX0_readNames_185 : decode cX0_readNames 185 = .ok (.invokevirtual 48, 3) := by decide +kernel
theorem dX0_readNames_188 : decode cX0_readNames 188 = .ok (.ireturn, 1) := by decide +kernel
theorem dX0_readReference_0 : decode cX0_readReference 0 = .ok (.aload_n 1, 1) := by decide +kernel
theorem dX0_readReference_1 : decode cX0_readReference 1 = .ok (.iconst 4, 1) := by decide +kernel
theorem dX0_readReference_2 : decode cX0_readReference 2 = .ok (.putfield 132, 3) := by decide +kernel
theorem dX0_readReference_5 : decode cX0_readReference 5 = .ok (.aload_n 0, 1) := by decide +kernel
theorem dX0_readReference_6 : decode cX0_readReference 6 = .ok (.aload_n 1, 1) := by decide +kernel
theorem dX0_readReference_7 : decode cX0_readReference 7 = .ok (.invokevirtual 219, 3) := by decide +kernel
theorem dX0_readReference_10 : decode cX0_readReference 10 = .ok (.ifCond .ne 5, 3) := by decide +kernel
theorem dX0_readReference_13 : decode cX0_readReference 13 = .ok (.iconst 0, 1) := by decide +kernel
theorem dX0_readReference_14 : decode cX0_readReference 14 = .ok (.ireturn, 1) := by decide +kernel
theorem dX0_readReference_15 : decode cX0_readReference 15 = .ok (.aload_n 0, 1) := by decide +kernel
theorem dX0_readReference_16 : decode cX0_readReference 16 = .ok (.aload_n 1, 1) := by decide +kernel
theorem dX0_readReference_17 : decode cX0_readReference 17 = .ok (.ldc2_w 222, 3) := by decide +kernel
theorem dX0_readReference_20 : decode cX0_readReference 20 = .ok (.iconst 2, 1) := by decide +kernel
theorem dX0_readReference_21 : decode cX0_readReference 21 = .ok (.invokevirtual 194, 3) := by decide +kernel
theorem dX0_readReference_24 : decode cX0_readReference 24 = .ok (.aload_n 0, 1) := by decide +kernel
theorem dX0_readReference_25 : decode cX0_readReference 25 = .ok (.aload_n 1, 1) := by decide +kernel
theorem dX0_readReference_26 : decode cX0_readReference 26 = .ok (.ldc2_w 224, 3) := by decide +kernel
theorem dX0_readReference_29 : decode cX0_readReference 29 = .ok (.iconst 4, 1) := by decide +kernel
theorem dX0_readReference_30 : decode cX0_readReference 30 = .ok (.invokevirtual 194, 3) := by decide +kernel
theorem dX0_readReference_33 : decode cX0_readReference 33 = .ok (.iconst 1, 1) := by decide +kernel
theorem dX0_readReference_34 : decode cX0_readReference 34 = .ok (.ireturn, 1) := by decide +kernel
theorem dX0_readList_0 : decode cX0_readList 0 = .ok (.aload_n 1, 1) := by decide +kernel
theorem dX0_readList_1 : decode cX0_readList 1 = .ok (.iconst 5, 1) := by decide +kernel
theorem dX0_readList_2 : decode cX0_readList 2 = .ok (.putfield 132, 3) := by decide +kernel
theorem dX0_readList_5 : decode cX0_readList 5 = .ok (.aload_n 0, 1) := by decide +kernel
theorem dX0_readList_6 : decode cX0_readList 6 = .ok (.aload_n 1, 1) := by decide +kernel
theorem dX0_readList_7 : decode cX0_readList 7 = .ok (.invokevirtual 219, 3) := by decide +kernel
theorem dX0_readList_10 : decode cX0_readList 10 = .ok (.ifCond .eq 16, 3) := by decide +kernel
theorem dX0_readList_13 : decode cX0_readList 13 = .ok (.aload_n 0, 1) := by decide +kernel
theorem dX0_readList_14 : decode cX0_readList 14 = .ok (.getfield 9, 3) := by decide +kernel
theorem dX0_readList_17 : decode cX0_readList 17 = .ok (.ldc2_w 226, 3) := by decide +kernel
theorem dX0_readList_20 : decode cX0_readList 20 = .ok (.invokevirtual 48, 3) := by decide +kernel
theorem dX0_readList_23 : decode cX0_readList 23 = .ok (.ifCond .ne 5, 3) := by decide +kernel
theorem dX0_readList_26 : decode cX0_readList 26 = .ok (.iconst 0, 1) := by decide +kernel
theorem dX0_readList_27 : decode cX0_readList 27 = .ok (.ireturn, 1) := by decide +kernel
theorem dX0_readList_28 : decode cX0_readList 28 = .ok (.aload_n 0, 1) := by decide +kernel
theorem dX0_readList_29 : decode cX0_readList 29 = .ok (.getfield 9, 3) := by decide +kernel
theorem dX0_readList_32 : decode cX0_readList 32 = .ok (.invokevirtual 52, 3) := by decide +kernel
theorem dX0_readList_35 : decode cX0_readList 35 = .ok (.ifCond .ne 11, 3) := by decide +kernel
theorem dX0_readList_38 : decode cX0_readList 38 = .ok (.aload_n 0, 1) := by decide +kernel
theorem dX0_readList_39 : decode cX0_readList 39 = .ok (.getfield 9, 3) := by decide +kernel
theorem dX0_readList_42 : decode cX0_readList 42 = .ok (.invokevirtual 55, 3) := by decide +kernel
theorem dX0_readList_45 : decode cX0_readList 45 = .ok (.ireturn, 1) := by decide +kernel
theorem dX0_readList_46 : decode cX0_readList 46 = .ok (.aload_n 1, 1) := by decide +kernel
theorem dX0_readList_47 : decode cX0_readList 47 = .ok (.aload_n 0, 1) := by decide +kernel
theorem dX0_readList_48 : decode cX0_readList 48 = .ok (.getfield 9, 3) := by decide +kernel
theorem dX0_readList_51 : decode cX0_readList 51 = .ok (.invokevirtual 58, 3) := by decide +kernel
theorem dX0_readList_54 : decode cX0_readList 54 = .ok (.putfield 228, 3) := by decide +kernel
theorem dX0_readList_57 : decode cX0_readList 57 = .ok (.aload_n 1, 1) := by decide +kernel
theorem dX0_readList_58 : decode cX0_readList 58 = .ok (.aload_n 0, 1) := by decide +kernel
theorem dX0_readList_59 : decode cX0_readList 59 = .ok (.getfield 9, 3) := by decide +kernel
theorem dX0_readList_62 : decode cX0_readList 62 = .ok (.invokevirtual 232, 3) := by decide +kernel
theorem dX0_readList_65 : decode cX0_readList 65 = .ok (.putfield 235, 3) := by decide +kernel
theorem dX0_readList_68 : decode cX0_readList 68 = .ok (.aload_n 0, 1) := by decide +kernel
theorem dX0_readList_69 : decode cX0_readList 69 = .ok (.getfield 9, 3) := by decide +kernel
theorem dX0_readList_72 : decode cX0_readList 72 = .ok (.invokevirtual 74, 3) := by decide +kernel
theorem dX0_readList_75 : decode cX0_readList 75 = .ok (.aload_n 0, 1) := by decide +kernel
theorem dX0_readList_76 : decode cX0_readList 76 = .ok (.aload_n 1, 1) := by decide +kernel
theorem dX0_readList_77 : decode cX0_readList 77 = .ok (.ldc2_w 224, 3) := by decide +kernel
theorem dX0_readList_80 : decode cX0_readList 80 = .ok (.iconst 4, 1) := by decide +kernel
theorem dX0_readList_81 : decode cX0_readList 81 = .ok (.invokevirtual 194, 3) := by decide +kernel
theorem dX0_readList_84 : decode cX0_readList 84 = .ok (.iconst 1, 1) := by decide +kernel
theorem dX0_readList_85 : decode cX0_readList 85 = .ok (.ireturn, 1) := by decide +kernel
theorem dX0_readTarget_0 : decode cX0_readTarget 0 = .ok (.aload_n 0, 1) := by decide +kernel
theorem dX0_readTarget_1 : decode cX0_readTarget 1 = .ok (.getfield 9, 3) := by decide +kernel
theorem dX0_readTarget_4 : decode cX0_readTarget 4 = .ok (.invokevirtual 52, 3) := by decide +kernel
theorem dX0_readTarget_7 : decode cX0_readTarget 7 = .ok (.ifCond .ne 11, 3) := by decide +kernel
theorem dX0_readTarget_10 : decode cX0_readTarget 10 = .ok (.aload_n 0, 1) := by decide +kernel
theorem dX0_readTarget_11 : decode cX0_readTarget 11 = .ok (.getfield 9, 3) := by decide +kernel
theorem dX0_readTarget_14 : decode cX0_readTarget 14 = .ok (.invokevirtual 55, 3) := by decide +kernel
theorem dX0_readTarget_17 : decode cX0_readTarget 17 = .ok (.ireturn, 1) := by decide +kernel
theorem dX0_readTarget_18 : decode cX0_readTarget 18 = .ok (.aload_n 1, 1) := by decide +kernel
theorem dX0_readTarget_19 : decode cX0_readTarget 19 = .ok (.aload_n 0, 1) := by decide +kernel
theorem dX0_readTarget_20 : decode cX0_readTarget 20 = .ok (.getfield 9, 3) := by decide +kernel
theorem dX0_readTarget_23 : decode cX0_readTarget 23 = .ok (.invokevirtual 58, 3) := by decide +kernel
theorem dX0_readTarget_26 : decode cX0_readTarget 26 = .ok (.putfield 238, 3) := by decide +kernel
theorem dX0_readTarget_29 : decode cX0_readTarget 29 = .ok (.aload_n 1, 1) := by decide +kernel
theorem dX0_readTarget_30 : decode cX0_readTarget 30 = .ok (.aload_n 0, 1) := by decide +kernel
theorem dX0_readTarget_31 : decode cX0_readTarget 31 = .ok (.getfield 9, 3) := by decide +kernel
theorem dX0_readTarget_34 : decode cX0_readTarget 34 = .ok (.invokevirtual 232, 3) := by decide +kernel
theorem dX0_readTarget_37 : decode cX0_readTarget 37 = .ok (.putfield 241, 3) := by decide +kernel
theorem dX0_readTarget_40 : decode cX0_readTarget 40 = .ok (.aload_n 0, 1) := by decide +kernel
theorem dX0_readTarget_41 : decode cX0_readTarget 41 = .ok (.getfield 9, 3) := by decide +kernel
theorem dX0_readTarget_44 : decode cX0_readTarget 44 = .ok (.invokevirtual 74, 3) := by decide +kernel
theorem dX0_readTarget_47 : decode cX0_readTarget 47 = .ok (.iconst 1, 1) := by decide +kernel
theorem dX0_readTarget_48 : decode cX0_readTarget 48 = .ok (.ireturn, 1) := by decide +kernel
theorem dX0_takeFlag_0 : decode cX0_takeFlag 0 = .ok (.aload_n 0, 1) := by decide +kernel
theorem dX0_takeFlag_1 : decode cX0_takeFlag 1 = .ok (.getfield 9, 3) := by decide +kernel
theorem dX0_takeFlag_4 : decode cX0_takeFlag 4 = .ok (.lload_n 2, 1) := by decide +kernel
theorem dX0_takeFlag_5 : decode cX0_takeFlag 5 = .ok (.invokevirtual 84, 3) := by decide +kernel
theorem dX0_takeFlag_8 : decode cX0_takeFlag 8 = .ok (.ifCond .eq 14, 3) := by decide +kernel
theorem dX0_takeFlag_11 : decode cX0_takeFlag 11 = .ok (.aload_n 1, 1) := by decide +kernel
theorem dX0_takeFlag_12 : decode cX0_takeFlag 12 = .ok (.dup, 1) := by decide +kernel
theorem dX0_takeFlag_13 : decode cX0_takeFlag 13 = .ok (.getfield 244, 3) := by decide +kernel
theorem dX0_takeFlag_16 : decode cX0_takeFlag 16 = .ok (.iload 4, 2) := by decide +kernel
theorem dX0_takeFlag_18 : decode cX0_takeFlag 18 = .ok (.ior, 1) := by decide +kernel
theorem dX0_takeFlag_19 : decode cX0_takeFlag 19 = .ok (.putfield 244, 3) := by decide +kernel
theorem dX0_takeFlag_22 : decode cX0_takeFlag 22 = .ok (.return_, 1) := by decide +kernel
theorem dX0_findTargets_0 : decode cX0_findTargets 0 = .ok (.iconst 0, 1) := by decide +kernel
theorem dX0_findTargets_1 : decode cX0_findTargets 1 = .ok (.istore_n 1, 1) := by decide +kernel
theorem dX0_findTargets_2 : decode cX0_findTargets 2 = .ok (.iload_n 1, 1) := by decide +kernel
theorem dX0_findTargets_3 : decode cX0_findTargets 3 = .ok (.aload_n 0, 1) := by decide +kernel
theorem dX0_findTargets_4 : decode cX0_findTargets 4 = .ok (.getfield 15, 3) := by decide +kernel
theorem dX0_findTargets_7 : decode cX0_findTargets 7 = .ok (.getfield 247, 3) := by decide +kernel
theorem dX0_findTargets_10 : decode cX0_findTargets 10 = .ok (.if_icmp .ge 41, 3) := by decide +kernel
theorem dX0_findTargets_13 : decode cX0_findTargets 13 = .ok (.aload_n 0, 1) := by decide +kernel
theorem dX0_findTargets_14 : decode cX0_findTargets 14 = .ok (.getfield 15, 3) := by decide +kernel
theorem dX0_findTargets_17 : decode cX0_findTargets 17 = .ok (.getfield 250, 3) := by decide +kernel
theorem dX0_findTargets_20 : decode cX0_findTargets 20 = .ok (.iload_n 1, 1) := by decide +kernel
theorem dX0_findTargets_21 : decode cX0_findTargets 21 = .ok (.aaload, 1) := by decide +kernel
theorem dX0_findTargets_22 : decode cX0_findTargets 22 = .ok (.astore_n 2, 1) := by decide +kernel
theorem dX0_findTargets_23 : decode cX0_findTargets 23 = .ok (.aload_n 2, 1) := by decide +kernel
theorem dX0_findTargets_24 : decode cX0_findTargets 24 = .ok (.invokevirtual 253, 3) := by decide +kernel
theorem dX0_findTargets_27 : decode cX0_findTargets 27 = .ok (.ifCond .eq 18, 3) := by decide +kernel
theorem dX0_findTargets_30 : decode cX0_findTargets 30 = .ok (.aload_n 2, 1) := by decide +kernel
theorem dX0_findTargets_31 : decode cX0_findTargets 31 = .ok (.aload_n 0, 1) := by decide +kernel
theorem dX0_findTargets_32 : decode cX0_findTargets 32 = .ok (.getfield 15, 3) := by decide +kernel
theorem dX0_findTargets_35 : decode cX0_findTargets 35 = .ok (.aload_n 2, 1) := by decide +kernel
theorem dX0_findTargets_36 : decode cX0_findTargets 36 = .ok (.getfield 238, 3) := by decide +kernel
theorem dX0_findTargets_39 : decode cX0_findTargets 39 = .ok (.invokevirtual 62, 3) := by decide +kernel
theorem dX0_findTargets_42 : decode cX0_findTargets 42 = .ok (.putfield 256, 3) := by decide +kernel
theorem dX0_findTargets_45 : decode cX0_findTargets 45 = .ok (.iinc 1 1, 3) := by decide +kernel
theorem dX0_findTargets_48 : decode cX0_findTargets 48 = .ok (.goto (-46), 3) := by decide +kernel
theorem dX0_findTargets_51 : decode cX0_findTargets 51 = .ok (.return_, 1) := by decide +kernel
theorem dX0_checkLeads_0 : decode cX0_checkLeads 0 = .ok (.iconst 0, 1) := by decide +kernel
theorem dX0_checkLeads_1 : decode cX0_checkLeads 1 = .ok (.istore_n 1, 1) := by decide +kernel
theorem dX0_checkLeads_2 : decode cX0_checkLeads 2 = .ok (.iload_n 1, 1) := by decide +kernel
theorem dX0_checkLeads_3 : decode cX0_checkLeads 3 = .ok (.aload_n 0, 1) := by decide +kernel
theorem dX0_checkLeads_4 : decode cX0_checkLeads 4 = .ok (.getfield 15, 3) := by decide +kernel
theorem dX0_checkLeads_7 : decode cX0_checkLeads 7 = .ok (.getfield 247, 3) := by decide +kernel
theorem dX0_checkLeads_10 : decode cX0_checkLeads 10 = .ok (.if_icmp .ge 76, 3) := by decide +kernel
theorem dX0_checkLeads_13 : decode cX0_checkLeads 13 = .ok (.aload_n 0, 1) := by decide +kernel
theorem dX0_checkLeads_14 : decode cX0_checkLeads 14 = .ok (.getfield 15, 3) := by decide +kernel
theorem dX0_checkLeads_17 : decode cX0_checkLeads 17 = .ok (.getfield 250, 3) := by decide +kernel
theorem dX0_checkLeads_20 : decode cX0_checkLeads 20 = .ok (.iload_n 1, 1) := by decide +kernel
theorem dX0_checkLeads_21 : decode cX0_checkLeads 21 = .ok (.aaload, 1) := by decide +kernel
theorem dX0_checkLeads_22 : decode cX0_checkLeads 22 = .ok (.astore_n 2, 1) := by decide +kernel
theorem dX0_checkLeads_23 : decode cX0_checkLeads 23 = .ok (.aload_n 2, 1) := by decide +kernel
theorem dX0_checkLeads_24 : decode cX0_checkLeads 24 = .ok (.invokevirtual 253, 3) := by decide +kernel
theorem dX0_checkLeads_27 : decode cX0_checkLeads 27 = .ok (.ifCond .eq 24, 3) := by decide +kernel
theorem dX0_checkLeads_30 : decode cX0_checkLeads 30 = .ok (.aload_n 2, 1) := by decide +kernel
theorem dX0_checkLeads_31 : decode cX0_checkLeads 31 = .ok (.getfield 256, 3) := by decide +kernel
theorem dX0_checkLeads_34 : decode cX0_checkLeads 34 = .ok (.iconst (-1), 1) := by decide +kernel
theorem dX0_checkLeads_35 : decode cX0_checkLeads 35 = .ok (.if_icmp .ne 16, 3) := by decide +kernel
theorem dX0_checkLeads_38 : decode cX0_checkLeads 38 = .ok (.aload_n 0, 1) := by decide +kernel
theorem dX0_checkLeads_39 : decode cX0_checkLeads 39 = .ok (.getfield 9, 3) := by decide +kernel
theorem dX0_checkLeads_42 : decode cX0_checkLeads 42 = .ok (.iconst 5, 1) := by decide +kernel
theorem dX0_checkLeads_43 : decode cX0_checkLeads 43 = .ok (.aload_n 2, 1) := by decide +kernel
theorem dX0_checkLeads_44 : decode cX0_checkLeads 44 = .ok (.getfield 241, 3) := by decide +kernel
theorem dX0_checkLeads_47 : decode cX0_checkLeads 47 = .ok (.invokevirtual 259, 3) := by decide +kernel
theorem dX0_checkLeads_50 : decode cX0_checkLeads 50 = .ok (.ireturn, 1) := by decide +kernel
theorem dX0_checkLeads_51 : decode cX0_checkLeads 51 = .ok (.aload_n 2, 1) := by decide +kernel
theorem dX0_checkLeads_52 : decode cX0_checkLeads 52 = .ok (.getfield 132, 3) := by decide +kernel
theorem dX0_checkLeads_55 : decode cX0_checkLeads 55 = .ok (.iconst 5, 1) := by decide +kernel
theorem dX0_checkLeads_56 : decode cX0_checkLeads 56 = .ok (.if_icmp .ne 24, 3) := by decide +kernel
theorem dX0_checkLeads_59 : decode cX0_checkLeads 59 = .ok (.aload_n 0, 1) := by decide +kernel
theorem dX0_checkLeads_60 : decode cX0_checkLeads 60 = .ok (.aload_n 2, 1) := by decide +kernel
theorem dX0_checkLeads_61 : decode cX0_checkLeads 61 = .ok (.invokevirtual 263, 3) := by decide +kernel
theorem dX0_checkLeads_64 : decode cX0_checkLeads 64 = .ok (.ifCond .ne 16, 3) := by decide +kernel
theorem dX0_checkLeads_67 : decode cX0_checkLeads 67 = .ok (.aload_n 0, 1) := by decide +kernel
theorem dX0_checkLeads_68 : decode cX0_checkLeads 68 = .ok (.getfield 9, 3) := by decide +kernel
theorem dX0_checkLeads_71 : decode cX0_checkLeads 71 = .ok (.iconst 5, 1) := by decide +kernel
theorem dX0_checkLeads_72 : decode cX0_checkLeads 72 = .ok (.aload_n 2, 1) := by decide +kernel
theorem dX0_checkLeads_73 : decode cX0_checkLeads 73 = .ok (.getfield 235, 3) := by decide +kernel
theorem dX0_checkLeads_76 : decode cX0_checkLeads 76 = .ok (.invokevirtual 259, 3) := by decide +kernel
theorem dX0_checkLeads_79 : decode cX0_checkLeads 79 = .ok (.ireturn, 1) := by decide +kernel
theorem dX0_checkLeads_80 : decode cX0_checkLeads 80 = .ok (.iinc 1 1, 3) := by decide +kernel
theorem dX0_checkLeads_83 : decode cX0_checkLeads 83 = .ok (.goto (-81), 3) := by decide +kernel
theorem dX0_checkLeads_86 : decode cX0_checkLeads 86 = .ok (.iconst 1, 1) := by decide +kernel
theorem dX0_checkLeads_87 : decode cX0_checkLeads 87 = .ok (.ireturn, 1) := by decide +kernel
theorem dX0_findBy_0 : decode cX0_findBy 0 = .ok (.aload_n 0, 1) := by decide +kernel
theorem dX0_findBy_1 : decode cX0_findBy 1 = .ok (.getfield 15, 3) := by decide +kernel
theorem dX0_findBy_4 : decode cX0_findBy 4 = .ok (.aload_n 1, 1) := by decide +kernel
theorem dX0_findBy_5 : decode cX0_findBy 5 = .ok (.getfield 256, 3) := by decide +kernel
theorem dX0_findBy_8 : decode cX0_findBy 8 = .ok (.aload_n 1, 1) := by decide +kernel
theorem dX0_findBy_9 : decode cX0_findBy 9 = .ok (.getfield 228, 3) := by decide +kernel
theorem dX0_findBy_12 : decode cX0_findBy 12 = .ok (.invokevirtual 266, 3) := by decide +kernel
theorem dX0_findBy_15 : decode cX0_findBy 15 = .ok (.istore_n 2, 1) := by decide +kernel
theorem dX0_findBy_16 : decode cX0_findBy 16 = .ok (.aload_n 0, 1) := by decide +kernel
theorem dX0_findBy_17 : decode cX0_findBy 17 = .ok (.getfield 15, 3) := by decide +kernel
theorem dX0_findBy_20 : decode cX0_findBy 20 = .ok (.aload_n 1, 1) := by decide +kernel
theorem dX0_findBy_21 : decode cX0_findBy 21 = .ok (.getfield 256, 3) := by decide +kernel
theorem dX0_findBy_24 : decode cX0_findBy 24 = .ok (.iload_n 2, 1) := by decide +kernel
theorem dX0_findBy_25 : decode cX0_findBy 25 = .ok (.invokevirtual 269, 3) := by decide +kernel
theorem dX0_findBy_28 : decode cX0_findBy 28 = .ok (.astore_n 3, 1) := by decide +kernel
theorem dX0_findBy_29 : decode cX0_findBy 29 = .ok (.aload_n 3, 1) := by decide +kernel
theorem dX0_findBy_30 : decode cX0_findBy 30 = .ok (.ifnull 29, 3) := by decide +kernel
theorem dX0_findBy_33 : decode cX0_findBy 33 = .ok (.aload_n 3, 1) := by decide +kernel
theorem dX0_findBy_34 : decode cX0_findBy 34 = .ok (.getfield 132, 3) := by decide +kernel
theorem dX0_findBy_37 : decode cX0_findBy 37 = .ok (.iconst 4, 1) := by decide +kernel
theorem dX0_findBy_38 : decode cX0_findBy 38 = .ok (.if_icmp .ne 21, 3) := by decide +kernel
theorem dX0_findBy_41 : decode cX0_findBy 41 = .ok (.aload_n 0, 1) := by decide +kernel
theorem dX0_findBy_42 : decode cX0_findBy 42 = .ok (.getfield 15, 3) := by decide +kernel
theorem dX0_findBy_45 : decode cX0_findBy 45 = .ok (.aload_n 1, 1) := by decide +kernel
theorem dX0_findBy_46 : decode cX0_findBy 46 = .ok (.getfield 273, 3) := by decide +kernel
theorem dX0_findBy_49 : decode cX0_findBy 49 = .ok (.aload_n 3, 1) := by decide +kernel
theorem dX0_findBy_50 : decode cX0_findBy 50 = .ok (.getfield 256, 3) := by decide +kernel
theorem dX0_findBy_53 : decode cX0_findBy 53 = .ok (.invokevirtual 276, 3) := by decide +kernel
theorem dX0_findBy_56 : decode cX0_findBy 56 = .ok (.ifCond .ne 5, 3) := by decide +kernel
theorem dX0_findBy_59 : decode cX0_findBy 59 = .ok (.iconst 0, 1) := by decide +kernel
theorem dX0_findBy_60 : decode cX0_findBy 60 = .ok (.ireturn, 1) := by decide +kernel
theorem dX0_findBy_61 : decode cX0_findBy 61 = .ok (.aload_n 1, 1) := by decide +kernel
theorem dX0_findBy_62 : decode cX0_findBy 62 = .ok (.iload_n 2, 1) := by decide +kernel
theorem dX0_findBy_63 : decode cX0_findBy 63 = .ok (.putfield 279, 3) := by decide +kernel
theorem dX0_findBy_66 : decode cX0_findBy 66 = .ok (.iconst 1, 1) := by decide +kernel
theorem dX0_findBy_67 : decode cX0_findBy 67 = .ok (.ireturn, 1) := by decide +kernel
theorem dX1_init_0 : decode cX1_init 0 = .ok (.aload_n 0, 1) := by decide +kernel
theorem dX1_init_1 : decode cX1_init 1 = .ok (.invokespecial 3, 3) := by decide +kernel
theorem dX1_init_4 : decode cX1_init 4 = .ok (.aload_n 0, 1) := by decide +kernel
theorem dX1_init_5 : decode cX1_init 5 = .ok (.bipush 16, 2) := by decide +kernel
theorem dX1_init_7 : decode cX1_init 7 = .ok (.anewarray 9, 3) := by decide +kernel
theorem dX1_init_10 : decode cX1_init 10 = .ok (.putfield 11, 3) := by decide +kernel
theorem dX1_init_13 : decode cX1_init 13 = .ok (.aload_n 0, 1) := by decide +kernel
theorem dX1_init_14 : decode cX1_init 14 = .ok (.iconst 4, 1) := by decide +kernel
theorem dX1_init_15 : decode cX1_init 15 = .ok (.newarray .boolean, 2) := by decide +kernel
theorem dX1_init_17 : decode cX1_init 17 = .ok (.putfield 17, 3) := by decide +kernel
theorem dX1_init_20 : decode cX1_init 20 = .ok (.aload_n 0, 1) := by decide +kernel
theorem dX1_init_21 : decode cX1_init 21 = .ok (.iconst 4, 1) := by decide +kernel
theorem dX1_init_22 : decode cX1_init 22 = .ok (.newarray .int, 2) := by decide +kernel
theorem dX1_init_24 : decode cX1_init 24 = .ok (.putfield 21, 3) := by decide +kernel
theorem dX1_init_27 : decode cX1_init 27 = .ok (.aload_n 0, 1) := by decide +kernel
theorem dX1_init_28 : decode cX1_init 28 = .ok (.iconst 4, 1) := by decide +kernel
theorem dX1_init_29 : decode cX1_init 29 = .ok (.newarray .int, 2) := by decide +kernel
theorem dX1_init_31 : decode cX1_init 31 = .ok (.putfield 25, 3) := by decide +kernel
theorem dX1_init_34 : decode cX1_init 34 = .ok (.return_, 1) := by decide +kernel
theorem dX1_begin_0 : decode cX1_begin 0 = .ok (.aload_n 0, 1) := by decide +kernel
theorem dX1_begin_1 : decode cX1_begin 1 = .ok (.lload_n 1, 1) := by decide +kernel
theorem dX1_begin_2 : decode cX1_begin 2 = .ok (.putfield 28, 3) := by decide +kernel
theorem dX1_begin_5 : decode cX1_begin 5 = .ok (.aload_n 0, 1) := by decide +kernel
theorem dX1_begin_6 : decode cX1_begin 6 = .ok (.iconst (-1), 1) := by decide +kernel
theorem dX1_begin_7 : decode cX1_begin 7 = .ok (.putfield 32, 3) := by decide +kernel
theorem dX1_begin_10 : decode cX1_begin 10 = .ok (.aload_n 0, 1) := by decide +kernel
theorem dX1_begin_11 : decode cX1_begin 11 = .ok (.iload_n 3, 1) := by decide +kernel
theorem dX1_begin_12 : decode cX1_begin 12 = .ok (.putfield 36, 3) := by decide +kernel
theorem dX1_begin_15 : decode cX1_begin 15 = .ok (.aload_n 0, 1) := by decide +kernel
theorem dX1_begin_16 : decode cX1_begin 16 = .ok (.iload 4, 2) := by decide +kernel
theorem dX1_begin_18 : decode cX1_begin 18 = .ok (.putfield 39, 3) := by decide +kernel
theorem dX1_begin_21 : decode cX1_begin 21 = .ok (.aload_n 0, 1) := by decide +kernel
theorem dX1_begin_22 : decode cX1_begin 22 = .ok (.iconst 0, 1) := by decide +kernel
theorem dX1_begin_23 : decode cX1_begin 23 = .ok (.putfield 42, 3) := by decide +kernel
theorem dX1_begin_26 : decode cX1_begin 26 = .ok (.aload_n 0, 1) := by decide +kernel
theorem dX1_begin_27 : decode cX1_begin 27 = .ok (.iconst 0, 1) := by decide +kernel
theorem dX1_begin_28 : decode cX1_begin 28 = .ok (.putfield 45, 3) := by decide +kernel
theorem dX1_begin_31 : decode cX1_begin 31 = .ok (.return_, 1) := by decide +kernel
theorem dX1_memberNamed_0 : decode cX1_memberNamed 0 = .ok (.iconst 0, 1) := by decide +kernel
theorem dX1_memberNamed_1 : decode cX1_memberNamed 1 = .ok (.istore_n 3, 1) := by decide +kernel
theorem dX1_memberNamed_2 : decode cX1_memberNamed 2 = .ok (.iload_n 3, 1) := by decide +kernel
theorem dX1_memberNamed_3 : decode cX1_memberNamed 3 = .ok (.aload_n 0, 1) := by decide +kernel
theorem dX1_memberNamed_4 : decode cX1_memberNamed 4 = .ok (.getfield 42, 3) := by decide +kernel
theorem dX1_memberNamed_7 : decode cX1_memberNamed 7 = .ok (.if_icmp .ge 25, 3) := by decide +kernel
theorem dX1_memberNamed_10 : decode cX1_memberNamed 10 = .ok (.aload_n 0, 1) := by decide +kernel
theorem dX1_memberNamed_11 : decode cX1_memberNamed 11 = .ok (.getfield 11, 3) := by decide +kernel
theorem dX1_memberNamed_14 : decode cX1_memberNamed 14 = .ok (.iload_n 3, 1) := by decide +kernel
theorem dX1_memberNamed_15 : decode cX1_memberNamed 15 = .ok (.aaload, 1) := by decide +kernel
theorem dX1_memberNamed_16 : decode cX1_memberNamed 16 = .ok (.getfield 48, 3) := by decide +kernel
theorem dX1_memberNamed_19 : decode cX1_memberNamed 19 = .ok (.lload_n 1, 1) := by decide +kernel
theorem dX1_memberNamed_20 : decode cX1_memberNamed 20 = .ok (.lcmp, 1) := by decide +kernel
theorem dX1_memberNamed_21 : decode cX1_memberNamed 21 = .ok (.ifCond .ne 5, 3) := by decide +kernel
theorem dX1_memberNamed_24 : decode cX1_memberNamed 24 = .ok (.iload_n 3, 1) := by decide +kernel
theorem dX1_memberNamed_25 : decode cX1_memberNamed 25 = .ok (.ireturn, 1) := by decide +kernel
theorem dX1_memberNamed_26 : decode cX1_memberNamed 26 = .ok (.iinc 3 1, 3) := by decide +kernel
theorem dX1_memberNamed_29 : decode cX1_memberNamed 29 = .ok (.goto (-27), 3) := by decide +kernel
theorem dX1_memberNamed_32 : decode cX1_memberNamed 32 = .ok (.iconst (-1), 1) := by decide +kernel
theorem dX1_memberNamed_33 : decode cX1_memberNamed 33 = .ok (.ireturn, 1) := by decide +kernel
theorem dX1_runHooks_0 : decode cX1_runHooks 0 = .ok (.iconst 0, 1) := by decide +kernel
theorem dX1_runHooks_1 : decode cX1_runHooks 1 = .ok (.istore_n 3, 1) := by decide +kernel
theorem dX1_runHooks_2 : decode cX1_runHooks 2 = .ok (.iload_n 3, 1) := by decide +kernel
theorem dX1_runHooks_3 : decode cX1_runHooks 3 = .ok (.aload_n 0, 1) := by decide +kernel
theorem dX1_runHooks_4 : decode cX1_runHooks 4 = .ok (.getfield 45, 3) := by decide +kernel
theorem dX1_runHooks_7 : decode cX1_runHooks 7 = .ok (.if_icmp .ge 39, 3) := by decide +kernel
theorem dX1_runHooks_10 : decode cX1_runHooks 10 = .ok (.aload_n 0, 1) := by decide +kernel
theorem dX1_runHooks_11 : decode cX1_runHooks 11 = .ok (.getfield 17, 3) := by decide +kernel
theorem dX1_runHooks_14 : decode cX1_runHooks 14 = .ok (.iload_n 3, 1) := by decide +kernel
theorem dX1_runHooks_15 : decode cX1_runHooks 15 = .ok (.baload, 1) := by decide +kernel
theorem dX1_runHooks_16 : decode cX1_runHooks 16 = .ok (.iload_n 2, 1) := by decide +kernel
theorem dX1_runHooks_17 : decode cX1_runHooks 17 = .ok (.if_icmp .ne 23, 3) := by decide +kernel
theorem dX1_runHooks_20 : decode cX1_runHooks 20 = .ok (.aload_n 1, 1) := by decide +kernel
theorem dX1_runHooks_21 : decode cX1_runHooks 21 = .ok (.getfield 49, 3) := by decide +kernel
theorem dX1_runHooks_24 : decode cX1_runHooks 24 = .ok (.aload_n 0, 1) := by decide +kernel
theorem dX1_runHooks_25 : decode cX1_runHooks 25 = .ok (.getfield 21, 3) := by decide +kernel
theorem dX1_runHooks_28 : decode cX1_runHooks 28 = .ok (.iload_n 3, 1) := by decide +kernel
theorem dX1_runHooks_29 : decode cX1_runHooks 29 = .ok (.iaload, 1) := by decide +kernel
theorem dX1_runHooks_30 : decode cX1_runHooks 30 = .ok (.dup2, 1) := by decide +kernel
theorem dX1_runHooks_31 : decode cX1_runHooks 31 = .ok (.iaload, 1) := by decide +kernel
theorem dX1_runHooks_32 : decode cX1_runHooks 32 = .ok (.aload_n 0, 1) := by decide +kernel
theorem dX1_runHooks_33 : decode cX1_runHooks 33 = .ok (.getfield 25, 3) := by decide +kernel
theorem dX1_runHooks_36 : decode cX1_runHooks 36 = .ok (.iload_n 3, 1) := by decide +kernel
theorem dX1_runHooks_37 : decode cX1_runHooks 37 = .ok (.iaload, 1) := by decide +kernel
theorem dX1_runHooks_38 : decode cX1_runHooks 38 = .ok (.iadd, 1) := by decide +kernel
theorem dX1_runHooks_39 : decode cX1_runHooks 39 = .ok (.iastore, 1) := by decide +kernel
theorem dX1_runHooks_40 : decode cX1_runHooks 40 = .ok (.iinc 3 1, 3) := by decide +kernel
theorem dX1_runHooks_43 : decode cX1_runHooks 43 = .ok (.goto (-41), 3) := by decide +kernel
theorem dX1_runHooks_46 : decode cX1_runHooks 46 = .ok (.return_, 1) := by decide +kernel
theorem dX2_init_0 : decode cX2_init 0 = .ok (.aload_n 0, 1) := by decide +kernel
theorem dX2_init_1 : decode cX2_init 1 = .ok (.invokespecial 3, 3) := by decide +kernel
theorem dX2_init_4 : decode cX2_init 4 = .ok (.return_, 1) := by decide +kernel
theorem dX2_begin_0 : decode cX2_begin 0 = .ok (.aload_n 0, 1) := by decide +kernel
theorem dX2_begin_1 : decode cX2_begin 1 = .ok (.lload_n 1, 1) := by decide +kernel
theorem dX2_begin_2 : decode cX2_begin 2 = .ok (.putfield 9, 3) := by decide +kernel
theorem dX2_begin_5 : decode cX2_begin 5 = .ok (.aload_n 0, 1) := by decide +kernel
theorem dX2_begin_6 : decode cX2_begin 6 = .ok (.iload_n 3, 1) := by decide +kernel
theorem dX2_begin_7 : decode cX2_begin 7 = .ok (.putfield 15, 3) := by decide +kernel
theorem dX2_begin_10 : decode cX2_begin 10 = .ok (.aload_n 0, 1) := by decide +kernel
theorem dX2_begin_11 : decode cX2_begin 11 = .ok (.iconst 0, 1) := by decide +kernel
theorem dX2_begin_12 : decode cX2_begin 12 = .ok (.putfield 19, 3) := by decide +kernel
theorem dX2_begin_15 : decode cX2_begin 15 = .ok (.aload_n 0, 1) := by decide +kernel
theorem dX2_begin_16 : decode cX2_begin 16 = .ok (.iconst 0, 1) := by decide +kernel
theorem dX2_begin_17 : decode cX2_begin 17 = .ok (.putfield 22, 3) := by decide +kernel
theorem dX2_begin_20 : decode cX2_begin 20 = .ok (.aload_n 0, 1) := by decide +kernel
theorem dX2_begin_21 : decode cX2_begin 21 = .ok (.iconst (-1), 1) := by decide +kernel
theorem dX2_begin_22 : decode cX2_begin 22 = .ok (.putfield 25, 3) := by decide +kernel
theorem dX2_begin_25 : decode cX2_begin 25 = .ok (.aload_n 0, 1) := by decide +kernel
theorem dX2_begin_26 : decode cX2_begin 26 = .ok (.iconst (-1), 1) := by decide +kernel
theorem dX2_begin_27 : decode cX2_begin 27 = .ok (.putfield 28, 3) := by decide +kernel
theorem dX2_begin_30 : decode cX2_begin 30 = .ok (.return_, 1) := by decide +kernel
theorem dX2_isLeading_0 : decode cX2_isLeading 0 = .ok (.aload_n 0, 1) := by decide +kernel
theorem dX2_isLeading_1 : decode cX2_isLeading 1 = .ok (.getfield 31, 3) := by decide +kernel
theorem dX2_isLeading_4 : decode cX2_isLeading 4 = .ok (.iconst 4, 1) := by decide +kernel
theorem dX2_isLeading_5 : decode cX2_isLeading 5 = .ok (.if_icmp .eq 11, 3) := by decide +kernel
theorem dX2_isLeading_8 : decode cX2_isLeading 8 = .ok (.aload_n 0, 1) := by decide +kernel
theorem dX2_isLeading_9 : decode cX2_isLeading 9 = .ok (.getfield 31, 3) := by decide +kernel
theorem dX2_isLeading_12 : decode cX2_isLeading 12 = .ok (.iconst 5, 1) := by decide +kernel
theorem dX2_isLeading_13 : decode cX2_isLeading 13 = .ok (.if_icmp .ne 7, 3) := by decide +kernel
theorem dX2_isLeading_16 : decode cX2_isLeading 16 = .ok (.iconst 1, 1) := by decide +kernel
theorem dX2_isLeading_17 : decode cX2_isLeading 17 = .ok (.goto 4, 3) := by decide +kernel
theorem dX2_isLeading_20 : decode cX2_isLeading 20 = .ok (.iconst 0, 1) := by decide +kernel
theorem dX2_isLeading_21 : decode cX2_isLeading 21 = .ok (.ireturn, 1) := by decide +kernel
theorem dX2_has_0 : decode cX2_has 0 = .ok (.aload_n 0, 1) := by decide +kernel
theorem dX2_has_1 : decode cX2_has 1 = .ok (.getfield 19, 3) := by decide +kernel
theorem dX2_has_4 : decode cX2_has 4 = .ok (.iload_n 1, 1) := by decide +kernel
theorem dX2_has_5 : decode cX2_has 5 = .ok (.iand, 1) := by decide +kernel
theorem dX2_has_6 : decode cX2_has 6 = .ok (.ifCond .eq 7, 3) := by decide +kernel
theorem dX2_has_9 : decode cX2_has 9 = .ok (.iconst 1, 1) := by decide +kernel
theorem dX2_has_10 : decode cX2_has 10 = .ok (.goto 4, 3) := by decide +kernel
theorem dX2_has_13 : decode cX2_has 13 = .ok (.iconst 0, 1) := by decide +kernel
theorem dX2_has_14 : decode cX2_has 14 = .ok (.ireturn, 1) := by decide +kernel
theorem dX2_holds_0 : decode cX2_holds 0 = .ok (.aload_n 0, 1) := by decide +kernel
theorem dX2_holds_1 : decode cX2_holds 1 = .ok (.getfield 31, 3) := by decide +kernel
theorem dX2_holds_4 : decode cX2_holds 4 = .ok (.tableswitch 85 0 3 #[32, 34, 52, 67], 32) := by decide +kernel
theorem dX2_holds_36 : decode cX2_holds 36 = .ok (.iconst 1, 1) := by decide +kernel
theorem dX2_holds_37 : decode cX2_holds 37 = .ok (.ireturn, 1) := by decide +kernel
theorem dX2_holds_38 : decode cX2_holds 38 = .ok (.iload_n 1, 1) := by decide +kernel
theorem dX2_holds_39 : decode cX2_holds 39 = .ok (.bipush (-128), 2) := by decide +kernel
theorem dX2_holds_41 : decode cX2_holds 41 = .ok (.if_icmp .lt 13, 3) := by decide +kernel
theorem dX2_holds_44 : decode cX2_holds 44 = .ok (.iload_n 1, 1) := by decide +kernel
theorem dX2_holds_45 : decode cX2_holds 45 = .ok (.bipush 127, 2) := by decide +kernel
theorem dX2_holds_47 : decode cX2_holds 47 = .ok (.if_icmp .gt 7, 3) := by decide +kernel
theorem dX2_holds_50 : decode cX2_holds 50 = .ok (.iconst 1, 1) := by decide +kernel
theorem dX2_holds_51 : decode cX2_holds 51 = .ok (.goto 4, 3) := by decide +kernel
theorem dX2_holds_54 : decode cX2_holds 54 = .ok (.iconst 0, 1) := by decide +kernel
theorem dX2_holds_55 : decode cX2_holds 55 = .ok (.ireturn, 1) := by decide +kernel
theorem dX2_holds_56 : decode cX2_holds 56 = .ok (.iload_n 1, 1) := by decide +kernel
theorem dX2_holds_57 : decode cX2_holds 57 = .ok (.ifCond .eq 8, 3) := by decide +kernel
theorem dX2_holds_60 : decode cX2_holds 60 = .ok (.iload_n 1, 1) := by decide +kernel
theorem dX2_holds_61 : decode cX2_holds 61 = .ok (.iconst 1, 1) := by decide +kernel
theorem dX2_holds_62 : decode cX2_holds 62 = .ok (.if_icmp .ne 7, 3) := by decide +kernel
theorem dX2_holds_65 : decode cX2_holds 65 = .ok (.iconst 1, 1) := by decide +kernel
theorem dX2_holds_66 : decode cX2_holds 66 = .ok (.goto 4, 3) := by decide +kernel
theorem dX2_holds_69 : decode cX2_holds 69 = .ok (.iconst 0, 1) := by decide +kernel
theorem dX2_holds_70 : decode cX2_holds 70 = .ok (.ireturn, 1) := by decide +kernel
theorem dX2_holds_71 : decode cX2_holds 71 = .ok (.iload_n 1, 1) := by decide +kernel
theorem dX2_holds_72 : decode cX2_holds 72 = .ok (.ifCond .lt 15, 3) := by decide +kernel
theorem dX2_holds_75 : decode cX2_holds 75 = .ok (.iload_n 1, 1) := by decide +kernel
theorem dX2_holds_76 : decode cX2_holds 76 = .ok (.aload_n 0, 1) := by decide +kernel
theorem dX2_holds_77 : decode cX2_holds 77 = .ok (.getfield 22, 3) := by decide +kernel
theorem dX2_holds_80 : decode cX2_holds 80 = .ok (.if_icmp .ge 7, 3) := by decide +kernel
theorem dX2_holds_83 : decode cX2_holds 83 = .ok (.iconst 1, 1) := by decide +kernel
theorem dX2_holds_84 : decode cX2_holds 84 = .ok (.goto 4, 3) := by decide +kernel
theorem dX2_holds_87 : decode cX2_holds 87 = .ok (.iconst 0, 1) := by decide +kernel
theorem dX2_holds_88 : decode cX2_holds 88 = .ok (.ireturn, 1) := by decide +kernel
theorem dX2_holds_89 : decode cX2_holds 89 = .ok (.iconst 0, 1) := by decide +kernel
theorem dX2_holds_90 : decode cX2_holds 90 = .ok (.ireturn, 1) := by decide +kernel
theorem dX3_init_0 : decode cX3_init 0 = .ok (.aload_n 0, 1) := by decide +kernel
theorem dX3_init_1 : decode cX3_init 1 = .ok (.invokespecial 3, 3) := by decide +kernel
theorem dX3_init_4 : decode cX3_init 4 = .ok (.aload_n 0, 1) := by decide +kernel
theorem dX3_init_5 : decode cX3_init 5 = .ok (.sipush 6000, 3) := by decide +kernel
theorem dX3_init_8 : decode cX3_init 8 = .ok (.newarray .int, 2) := by decide +kernel
theorem dX3_init_10 : decode cX3_init 10 = .ok (.putfield 9, 3) := by decide +kernel
theorem dX3_init_13 : decode cX3_init 13 = .ok (.aload_n 0, 1) := by decide +kernel
theorem dX3_init_14 : decode cX3_init 14 = .ok (.bipush 64, 2) := by decide +kernel
theorem dX3_init_16 : decode cX3_init 16 = .ok (.newarray .int, 2) := by decide +kernel
theorem dX3_init_18 : decode cX3_init 18 = .ok (.putfield 15, 3) := by decide +kernel
theorem dX3_init_21 : decode cX3_init 21 = .ok (.return_, 1) := by decide +kernel
theorem dX3_begin_0 : decode cX3_begin 0 = .ok (.aload_n 0, 1) := by decide +kernel
theorem dX3_begin_1 : decode cX3_begin 1 = .ok (.iload_n 1, 1) := by decide +kernel
theorem dX3_begin_2 : decode cX3_begin 2 = .ok (.putfield 18, 3) := by decide +kernel
theorem dX3_begin_5 : decode cX3_begin 5 = .ok (.aload_n 0, 1) := by decide +kernel
theorem dX3_begin_6 : decode cX3_begin 6 = .ok (.iconst 0, 1) := by decide +kernel
theorem dX3_begin_7 : decode cX3_begin 7 = .ok (.putfield 22, 3) := by decide +kernel
theorem dX3_begin_10 : decode cX3_begin 10 = .ok (.return_, 1) := by decide +kernel
theorem dX3_add_0 : decode cX3_add 0 = .ok (.aload_n 0, 1) := by decide +kernel
theorem dX3_add_1 : decode cX3_add 1 = .ok (.getfield 22, 3) := by decide +kernel
theorem dX3_add_4 : decode cX3_add 4 = .ok (.aload_n 0, 1) := by decide +kernel
theorem dX3_add_5 : decode cX3_add 5 = .ok (.getfield 9, 3) := by decide +kernel
theorem dX3_add_8 : decode cX3_add 8 = .ok (.arraylength, 1) := by decide +kernel
theorem dX3_add_9 : decode cX3_add 9 = .ok (.if_icmp .ge 23, 3) := by decide +kernel
theorem dX3_add_12 : decode cX3_add 12 = .ok (.aload_n 0, 1) := by decide +kernel
theorem dX3_add_13 : decode cX3_add 13 = .ok (.getfield 9, 3) := by decide +kernel
theorem dX3_add_16 : decode cX3_add 16 = .ok (.aload_n 0, 1) := by decide +kernel
theorem dX3_add_17 : decode cX3_add 17 = .ok (.getfield 22, 3) := by decide +kernel
theorem dX3_add_20 : decode cX3_add 20 = .ok (.iload_n 1, 1) := by decide +kernel
theorem dX3_add_21 : decode cX3_add 21 = .ok (.iastore, 1) := by decide +kernel
theorem dX3_add_22 : decode cX3_add 22 = .ok (.aload_n 0, 1) := by decide +kernel
theorem dX3_add_23 : decode cX3_add 23 = .ok (.dup, 1) := by decide +kernel
theorem dX3_add_24 : decode cX3_add 24 = .ok (.getfield 22, 3) := by decide +kernel
theorem dX3_add_27 : decode cX3_add 27 = .ok (.iconst 1, 1) := by decide +kernel
theorem dX3_add_28 : decode cX3_add 28 = .ok (.iadd, 1) := by decide +kernel
theorem dX3_add_29 : decode cX3_add 29 = .ok (.putfield 22, 3) := by decide +kernel
theorem dX3_add_32 : decode cX3_add 32 = .ok (.return_, 1) := by decide +kernel
theorem dX3_set_0 : decode cX3_set 0 = .ok (.iload_n 1, 1) := by decide +kernel
theorem dX3_set_1 : decode cX3_set 1 = .ok (.ifCond .lt 18, 3) := by decide +kernel
theorem dX3_set_4 : decode cX3_set 4 = .ok (.iload_n 1, 1) := by decide +kernel
theorem dX3_set_5 : decode cX3_set 5 = .ok (.aload_n 0, 1) := by decide +kernel
theorem dX3_set_6 : decode cX3_set 6 = .ok (.getfield 22, 3) := by decide +kernel
theorem dX3_set_9 : decode cX3_set 9 = .ok (.if_icmp .ge 10, 3) := by decide +kernel
theorem dX3_set_12 : decode cX3_set 12 = .ok (.aload_n 0, 1) := by decide +kernel
theorem dX3_set_13 : decode cX3_set 13 = .ok (.getfield 9, 3) := by decide +kernel
theorem dX3_set_16 : decode cX3_set 16 = .ok (.iload_n 1, 1) := by decide +kernel
theorem dX3_set_17 : decode cX3_set 17 = .ok (.iload_n 2, 1) := by decide +kernel
theorem dX3_set_18 : decode cX3_set 18 = .ok (.iastore, 1) := by decide +kernel
theorem dX3_set_19 : decode cX3_set 19 = .ok (.return_, 1) := by decide +kernel
theorem dX3_isTrueOf_0 : decode cX3_isTrueOf 0 = .ok (.iconst 0, 1) := by decide +kernel
theorem dX3_isTrueOf_1 : decode cX3_isTrueOf 1 = .ok (.istore_n 3, 1) := by decide +kernel
theorem dX3_isTrueOf_2 : decode cX3_isTrueOf 2 = .ok (.iconst 0, 1) := by decide +kernel
theorem dX3_isTrueOf_3 : decode cX3_isTrueOf 3 = .ok (.istore 4, 2) := by decide +kernel
theorem dX3_isTrueOf_5 : decode cX3_isTrueOf 5 = .ok (.iconst 0, 1) := by decide +kernel
theorem dX3_isTrueOf_6 : decode cX3_isTrueOf 6 = .ok (.istore 5, 2) := by decide +kernel
theorem dX3_isTrueOf_8 : decode cX3_isTrueOf 8 = .ok (.iload 5, 2) := by decide +kernel
theorem dX3_isTrueOf_10 : decode cX3_isTrueOf 10 = .ok (.aload_n 0, 1) := by decide +kernel
theorem dX3_isTrueOf_11 : decode cX3_isTrueOf 11 = .ok (.getfield 22, 3) := by decide +kernel
theorem dX3_isTrueOf_14 : decode cX3_isTrueOf 14 = .ok (.if_icmp .ge 102, 3) := by decide +kernel
theorem dX3_isTrueOf_17 : decode cX3_isTrueOf 17 = .ok (.iload 4, 2) := by decide +kernel
theorem dX3_isTrueOf_19 : decode cX3_isTrueOf 19 = .ok (.aload_n 0, 1) := by decide +kernel
theorem dX3_isTrueOf_20 : decode cX3_isTrueOf 20 = .ok (.getfield 22, 3) := by decide +kernel
theorem dX3_isTrueOf_23 : decode cX3_isTrueOf 23 = .ok (.if_icmp .ge 93, 3) := by decide +kernel
theorem dX3_isTrueOf_26 : decode cX3_isTrueOf 26 = .ok (.aload_n 0, 1) := by decide +kernel
theorem dX3_isTrueOf_27 : decode cX3_isTrueOf 27 = .ok (.getfield 9, 3) := by decide +kernel
theorem dX3_isTrueOf_30 : decode cX3_isTrueOf 30 = .ok (.iload 4, 2) := by decide +kernel
theorem dX3_isTrueOf_32 : decode cX3_isTrueOf 32 = .ok (.iaload, 1) := by decide +kernel
theorem dX3_isTrueOf_33 : decode cX3_isTrueOf 33 = .ok (.istore 6, 2) := by decide +kernel
theorem dX3_isTrueOf_35 : decode cX3_isTrueOf 35 = .ok (.iload 6, 2) := by decide +kernel
theorem dX3_isTrueOf_37 : decode cX3_isTrueOf 37 = .ok (.iconst 3, 1) := by decide +kernel
theorem dX3_isTrueOf_38 : decode cX3_isTrueOf 38 = .ok (.if_icmp .eq 9, 3) := by decide +kernel
theorem dX3_isTrueOf_41 : decode cX3_isTrueOf 41 = .ok (.iload 6, 2) := by decide +kernel
theorem dX3_isTrueOf_43 : decode cX3_isTrueOf 43 = .ok (.iconst 4, 1) := by decide +kernel
theorem dX3_isTrueOf_44 : decode cX3_isTrueOf 44 = .ok (.if_icmp .ne 55, 3) := by decide +kernel
theorem dX3_isTrueOf_47 : decode cX3_isTrueOf 47 = .ok (.iload_n 3, 1) := by decide +kernel
theorem dX3_isTrueOf_48 : decode cX3_isTrueOf 48 = .ok (.bipush 64, 2) := by decide +kernel
theorem dX3_isTrueOf_50 : decode cX3_isTrueOf 50 = .ok (.if_icmp .ge 20, 3) := by decide +kernel
theorem dX3_isTrueOf_53 : decode cX3_isTrueOf 53 = .ok (.aload_n 0, 1) := by decide +kernel
theorem dX3_isTrueOf_54 : decode cX3_isTrueOf 54 = .ok (.getfield 15, 3) := by decide +kernel
theorem dX3_isTrueOf_57 : decode cX3_isTrueOf 57 = .ok (.iload_n 3, 1) := by decide +kernel
theorem dX3_isTrueOf_58 : decode cX3_isTrueOf 58 = .ok (.aload_n 0, 1) := by decide +kernel
theorem dX3_isTrueOf_59 : decode cX3_isTrueOf 59 = .ok (.aload_n 1, 1) := by decide +kernel
theorem dX3_isTrueOf_60 : decode cX3_isTrueOf 60 = .ok (.iload_n 2, 1) := by decide +kernel
theorem dX3_isTrueOf_61 : decode cX3_isTrueOf 61 = .ok (.iload 4, 2) := by decide +kernel
theorem dX3_isTrueOf_63 : decode cX3_isTrueOf 63 = .ok (.invokevirtual 25, 3) := by decide +kernel
theorem dX3_isTrueOf_66 : decode cX3_isTrueOf 66 = .ok (.iastore, 1) := by decide +kernel
theorem dX3_isTrueOf_67 : decode cX3_isTrueOf 67 = .ok (.iinc 3 1, 3) := by decide +kernel
theorem dX3_isTrueOf_70 : decode cX3_isTrueOf 70 = .ok (.iload 4, 2) := by decide +kernel
theorem dX3_isTrueOf_72 : decode cX3_isTrueOf 72 = .ok (.aload_n 0, 1) := by decide +kernel
theorem dX3_isTrueOf_73 : decode cX3_isTrueOf 73 = .ok (.getfield 9, 3) := by decide +kernel
theorem dX3_isTrueOf_76 : decode cX3_isTrueOf 76 = .ok (.iload 4, 2) := by decide +kernel
theorem dX3_isTrueOf_78 : decode cX3_isTrueOf 78 = .ok (.iconst 1, 1) := by decide +kernel
theorem dX3_isTrueOf_79 : decode cX3_isTrueOf 79 = .ok (.iadd, 1) := by decide +kernel
theorem dX3_isTrueOf_80 : decode cX3_isTrueOf 80 = .ok (.iaload, 1) := by decide +kernel
theorem dX3_isTrueOf_81 : decode cX3_isTrueOf 81 = .ok (.iload 6, 2) := by decide +kernel
theorem dX3_isTrueOf_83 : decode cX3_isTrueOf 83 = .ok (.iconst 3, 1) := by decide +kernel
theorem dX3_isTrueOf_84 : decode cX3_isTrueOf 84 = .ok (.if_icmp .ne 7, 3) := by decide +kernel
theorem dX3_isTrueOf_87 : decode cX3_isTrueOf 87 = .ok (.iconst 2, 1) := by decide +kernel
theorem dX3_isTrueOf_88 : decode cX3_isTrueOf 88 = .ok (.goto 4, 3) := by decide +kernel
theorem dX3_isTrueOf_91 : decode cX3_isTrueOf 91 = .ok (.iconst 4, 1) := by decide +kernel
theorem dX3_isTrueOf_92 : decode cX3_isTrueOf 92 = .ok (.iadd, 1) := by decide +kernel
theorem dX3_isTrueOf_93 : decode cX3_isTrueOf 93 = .ok (.iadd, 1) := by decide +kernel
theorem dX3_isTrueOf_94 : decode cX3_isTrueOf 94 = .ok (.istore 4, 2) := by decide +kernel
theorem dX3_isTrueOf_96 : decode cX3_isTrueOf 96 = .ok (.goto 14, 3) := by decide +kernel
theorem dX3_isTrueOf_99 : decode cX3_isTrueOf 99 = .ok (.aload_n 0, 1) := by decide +kernel
theorem dX3_isTrueOf_100 : decode cX3_isTrueOf 100 = .ok (.iload 6, 2) := by decide +kernel
theorem dX3_isTrueOf_102 : decode cX3_isTrueOf 102 = .ok (.iload_n 3, 1) := by decide +kernel
theorem dX3_isTrueOf_103 : decode cX3_isTrueOf 103 = .ok (.invokevirtual 29, 3) := by decide +kernel
theorem dX3_isTrueOf_106 : decode cX3_isTrueOf 106 = .ok (.istore_n 3, 1) := by decide +kernel
theorem dX3_isTrueOf_107 : decode cX3_isTrueOf 107 = .ok (.iinc 4 1, 3) := by decide +kernel
theorem dX3_isTrueOf_110 : decode cX3_isTrueOf 110 = .ok (.iinc 5 1, 3) := by decide +kernel
theorem dX3_isTrueOf_113 : decode cX3_isTrueOf 113 = .ok (.goto (-105), 3) := by decide +kernel
theorem dX3_isTrueOf_116 : decode cX3_isTrueOf 116 = .ok (.iload_n 3, 1) := by decide +kernel
theorem dX3_isTrueOf_117 : decode cX3_isTrueOf 117 = .ok (.ifCond .eq 15, 3) := by decide +kernel
theorem dX3_isTrueOf_120 : decode cX3_isTrueOf 120 = .ok (.aload_n 0, 1) := by decide +kernel
theorem dX3_isTrueOf_121 : decode cX3_isTrueOf 121 = .ok (.getfield 15, 3) := by decide +kernel
theorem dX3_isTrueOf_124 : decode cX3_isTrueOf 124 = .ok (.iload_n 3, 1) := by decide +kernel
theorem dX3_isTrueOf_125 : decode cX3_isTrueOf 125 = .ok (.iconst 1, 1) := by decide +kernel
theorem dX3_isTrueOf_126 : decode cX3_isTrueOf 126 = .ok (.isub, 1) := by decide +kernel
theorem dX3_isTrueOf_127 : decode cX3_isTrueOf 127 = .ok (.iaload, 1) := by decide +kernel
theorem dX3_isTrueOf_128 : decode cX3_isTrueOf 128 = .ok (.iconst 2, 1) := by decide +kernel
theorem dX3_isTrueOf_129 : decode cX3_isTrueOf 129 = .ok (.if_icmp .ne 7, 3) := by decide +kernel
theorem dX3_isTrueOf_132 : decode cX3_isTrueOf 132 = .ok (.iconst 1, 1) := by decide +kernel
theorem dX3_isTrueOf_133 : decode cX3_isTrueOf 133 = .ok (.goto 4, 3) := by decide +kernel
theorem dX3_isTrueOf_136 : decode cX3_isTrueOf 136 = .ok (.iconst 0, 1) := by decide +kernel
theorem dX3_isTrueOf_137 : decode cX3_isTrueOf 137 = .ok (.ireturn, 1) := by decide +kernel
theorem dX3_join_0 : decode cX3_join 0 = .ok (.iload_n 1, 1) := by decide +kernel
theorem dX3_join_1 : decode cX3_join 1 = .ok (.ifCond .ne 27, 3) := by decide +kernel
theorem dX3_join_4 : decode cX3_join 4 = .ok (.iload_n 2, 1) := by decide +kernel
theorem dX3_join_5 : decode cX3_join 5 = .ok (.ifCond .le 23, 3) := by decide +kernel
theorem dX3_join_8 : decode cX3_join 8 = .ok (.aload_n 0, 1) := by decide +kernel
theorem dX3_join_9 : decode cX3_join 9 = .ok (.getfield 15, 3) := by decide +kernel
theorem dX3_join_12 : decode cX3_join 12 = .ok (.iload_n 2, 1) := by decide +kernel
theorem dX3_join_13 : decode cX3_join 13 = .ok (.iconst 1, 1) := by decide +kernel
theorem dX3_join_14 : decode cX3_join 14 = .ok (.isub, 1) := by decide +kernel
theorem dX3_join_15 : decode cX3_join 15 = .ok (.iconst 2, 1) := by decide +kernel
theorem dX3_join_16 : decode cX3_join 16 = .ok (.aload_n 0, 1) := by decide +kernel
theorem dX3_join_17 : decode cX3_join 17 = .ok (.getfield 15, 3) := by decide +kernel
theorem dX3_join_20 : decode cX3_join 20 = .ok (.iload_n 2, 1) := by decide +kernel
theorem dX3_join_21 : decode cX3_join 21 = .ok (.iconst 1, 1) := by decide +kernel
theorem dX3_join_22 : decode cX3_join 22 = .ok (.isub, 1) := by decide +kernel
theorem dX3_join_23 : decode cX3_join 23 = .ok (.iaload, 1) := by decide +kernel
theorem dX3_join_24 : decode cX3_join 24 = .ok (.isub, 1) := by decide +kernel
theorem dX3_join_25 : decode cX3_join 25 = .ok (.iastore, 1) := by decide +kernel
theorem dX3_join_26 : decode cX3_join 26 = .ok (.iload_n 2, 1) := by decide +kernel
theorem dX3_join_27 : decode cX3_join 27 = .ok (.ireturn, 1) := by decide +kernel
theorem dX3_join_28 : decode cX3_join 28 = .ok (.iload_n 2, 1) := by decide +kernel
theorem dX3_join_29 : decode cX3_join 29 = .ok (.iconst 2, 1) := by decide +kernel
theorem dX3_join_30 : decode cX3_join 30 = .ok (.if_icmp .ge 5, 3) := by decide +kernel
theorem dX3_join_33 : decode cX3_join 33 = .ok (.iload_n 2, 1) := by decide +kernel
theorem dX3_join_34 : decode cX3_join 34 = .ok (.ireturn, 1) := by decide +kernel
theorem dX3_join_35 : decode cX3_join 35 = .ok (.aload_n 0, 1) := by decide +kernel
theorem dX3_join_36 : decode cX3_join 36 = .ok (.getfield 15, 3) := by decide +kernel
theorem dX3_join_39 : decode cX3_join 39 = .ok (.iload_n 2, 1) := by decide +kernel
theorem dX3_join_40 : decode cX3_join 40 = .ok (.iconst 2, 1) := by decide +kernel
theorem dX3_join_41 : decode cX3_join 41 = .ok (.isub, 1) := by decide +kernel
theorem dX3_join_42 : decode cX3_join 42 = .ok (.iaload, 1) := by decide +kernel
theorem dX3_join_43 : decode cX3_join 43 = .ok (.istore_n 3, 1) := by decide +kernel
theorem dX3_join_44 : decode cX3_join 44 = .ok (.aload_n 0, 1) := by decide +kernel
theorem dX3_join_45 : decode cX3_join 45 = .ok (.getfield 15, 3) := by decide +kernel
theorem dX3_join_48 : decode cX3_join 48 = .ok (.iload_n 2, 1) := by decide +kernel
theorem dX3_join_49 : decode cX3_join 49 = .ok (.iconst 1, 1) := by decide +kernel
theorem dX3_join_50 : decode cX3_join 50 = .ok (.isub, 1) := by decide +kernel
theorem dX3_join_51 : decode cX3_join 51 = .ok (.iaload, 1) := by decide +kernel
theorem dX3_join_52 : decode cX3_join 52 = .ok (.istore 4, 2) := by decide +kernel
theorem dX3_join_54 : decode cX3_join 54 = .ok (.aload_n 0, 1) := by decide +kernel
theorem dX3_join_55 : decode cX3_join 55 = .ok (.getfield 15, 3) := by decide +kernel
theorem dX3_join_58 : decode cX3_join 58 = .ok (.iload_n 2, 1) := by decide +kernel
theorem dX3_join_59 : decode cX3_join 59 = .ok (.iconst 2, 1) := by decide +kernel
theorem dX3_join_60 : decode cX3_join 60 = .ok (.isub, 1) := by decide +kernel
theorem dX3_join_61 : decode cX3_join 61 = .ok (.iload_n 1, 1) := by decide +kernel
theorem dX3_join_62 : decode cX3_join 62 = .ok (.iconst 1, 1) := by decide +kernel
theorem dX3_join_63 : decode cX3_join 63 = .ok (.if_icmp .ne 12, 3) := by decide +kernel
theorem dX3_join_66 : decode cX3_join 66 = .ok (.iload_n 3, 1) := by decide +kernel
theorem dX3_join_67 : decode cX3_join 67 = .ok (.iload 4, 2) := by decide +kernel
theorem dX3_join_69 : decode cX3_join 69 = .ok (.invokestatic 33, 3) := by decide +kernel
theorem dX3_join_72 : decode cX3_join 72 = .ok (.goto 9, 3) := by decide +kernel
theorem dX3_join_75 : decode cX3_join 75 = .ok (.iload_n 3, 1) := by decide +kernel
theorem dX3_join_76 : decode cX3_join 76 = .ok (.iload 4, 2) := by decide +kernel
theorem dX3_join_78 : decode cX3_join 78 = .ok (.invokestatic 38, 3) := by decide +kernel
theorem dX3_join_81 : decode cX3_join 81 = .ok (.iastore, 1) := by decide +kernel
theorem dX3_join_82 : decode cX3_join 82 = .ok (.iload_n 2, 1) := by decide +kernel
theorem dX3_join_83 : decode cX3_join 83 = .ok (.iconst 1, 1) := by decide +kernel
theorem dX3_join_84 : decode cX3_join 84 = .ok (.isub, 1) := by decide +kernel
theorem dX3_join_85 : decode cX3_join 85 = .ok (.ireturn, 1) := by decide +kernel
theorem dX3_truthOfTerm_0 : decode cX3_truthOfTerm 0 = .ok (.aload_n 0, 1) := by decide +kernel
theorem dX3_truthOfTerm_1 : decode cX3_truthOfTerm 1 = .ok (.getfield 9, 3) := by decide +kernel
theorem dX3_truthOfTerm_4 : decode cX3_truthOfTerm 4 = .ok (.iload_n 3, 1) := by decide +kernel
theorem dX3_truthOfTerm_5 : decode cX3_truthOfTerm 5 = .ok (.iconst 1, 1) := by decide +kernel
theorem dX3_truthOfTerm_6 : decode cX3_truthOfTerm 6 = .ok (.iadd, 1) := by decide +kernel
theorem dX3_truthOfTerm_7 : decode cX3_truthOfTerm 7 = .ok (.iaload, 1) := by decide +kernel
theorem dX3_truthOfTerm_8 : decode cX3_truthOfTerm 8 = .ok (.istore 4, 2) := by decide +kernel
theorem dX3_truthOfTerm_10 : decode cX3_truthOfTerm 10 = .ok (.iload_n 2, 1) := by decide +kernel
theorem dX3_truthOfTerm_11 : decode cX3_truthOfTerm 11 = .ok (.istore 5, 2) := by decide +kernel
theorem dX3_truthOfTerm_13 : decode cX3_truthOfTerm 13 = .ok (.iconst 0, 1) := by decide +kernel
theorem dX3_truthOfTerm_14 : decode cX3_truthOfTerm 14 = .ok (.istore 6, 2) := by decide +kernel
theorem dX3_truthOfTerm_16 : decode cX3_truthOfTerm 16 = .ok (.iload 6, 2) := by decide +kernel
theorem dX3_truthOfTerm_18 : decode cX3_truthOfTerm 18 = .ok (.iload 4, 2) := by decide +kernel
theorem dX3_truthOfTerm_20 : decode cX3_truthOfTerm 20 = .ok (.iconst 1, 1) := by decide +kernel
theorem dX3_truthOfTerm_21 : decode cX3_truthOfTerm 21 = .ok (.isub, 1) := by decide +kernel
theorem dX3_truthOfTerm_22 : decode cX3_truthOfTerm 22 = .ok (.if_icmp .ge 36, 3) := by decide +kernel
theorem dX3_truthOfTerm_25 : decode cX3_truthOfTerm 25 = .ok (.aload_n 1, 1) := by decide +kernel
theorem dX3_truthOfTerm_26 : decode cX3_truthOfTerm 26 = .ok (.iload 5, 2) := by decide +kernel
theorem dX3_truthOfTerm_28 : decode cX3_truthOfTerm 28 = .ok (.aload_n 0, 1) := by decide +kernel
theorem dX3_truthOfTerm_29 : decode cX3_truthOfTerm 29 = .ok (.getfield 9, 3) := by decide +kernel
theorem dX3_truthOfTerm_32 : decode cX3_truthOfTerm 32 = .ok (.iload_n 3, 1) := by decide +kernel
theorem dX3_truthOfTerm_33 : decode cX3_truthOfTerm 33 = .ok (.iconst 2, 1) := by decide +kernel
theorem dX3_truthOfTerm_34 : decode cX3_truthOfTerm 34 = .ok (.iadd, 1) := by decide +kernel
theorem dX3_truthOfTerm_35 : decode cX3_truthOfTerm 35 = .ok (.iload 6, 2) := by decide +kernel
theorem dX3_truthOfTerm_37 : decode cX3_truthOfTerm 37 = .ok (.iadd, 1) := by decide +kernel
theorem dX3_truthOfTerm_38 : decode cX3_truthOfTerm 38 = .ok (.iaload, 1) := by decide +kernel
theorem dX3_truthOfTerm_39 : decode cX3_truthOfTerm 39 = .ok (.invokevirtual 41, 3) := by decide +kernel
theorem dX3_truthOfTerm_42 : decode cX3_truthOfTerm 42 = .ok (.istore 5, 2) := by decide +kernel
theorem dX3_truthOfTerm_44 : decode cX3_truthOfTerm 44 = .ok (.iload 5, 2) := by decide +kernel
theorem dX3_truthOfTerm_46 : decode cX3_truthOfTerm 46 = .ok (.iconst (-1), 1) := by decide +kernel
theorem dX3_truthOfTerm_47 : decode cX3_truthOfTerm 47 = .ok (.if_icmp .ne 5, 3) := by decide +kernel
theorem dX3_truthOfTerm_50 : decode cX3_truthOfTerm 50 = .ok (.iconst 1, 1) := by decide +kernel
theorem dX3_truthOfTerm_51 : decode cX3_truthOfTerm 51 = .ok (.ireturn, 1) := by decide +kernel
theorem dX3_truthOfTerm_52 : decode cX3_truthOfTerm 52 = .ok (.iinc 6 1, 3) := by decide +kernel
theorem dX3_truthOfTerm_55 : decode cX3_truthOfTerm 55 = .ok (.goto (-39), 3) := by decide +kernel
theorem dX3_truthOfTerm_58 : decode cX3_truthOfTerm 58 = .ok (.aload_n 1, 1) := by decide +kernel
theorem dX3_truthOfTerm_59 : decode cX3_truthOfTerm 59 = .ok (.iload 5, 2) := by decide +kernel
theorem dX3_truthOfTerm_61 : decode cX3_truthOfTerm 61 = .ok (.aload_n 0, 1) := by decide +kernel
theorem dX3_truthOfTerm_62 : decode cX3_truthOfTerm 62 = .ok (.getfield 9, 3) := by decide +kernel
theorem dX3_truthOfTerm_65 : decode cX3_truthOfTerm 65 = .ok (.iload_n 3, 1) := by decide +kernel
theorem dX3_truthOfTerm_66 : decode cX3_truthOfTerm 66 = .ok (.iconst 1, 1) := by decide +kernel
theorem dX3_truthOfTerm_67 : decode cX3_truthOfTerm 67 = .ok (.iadd, 1) := by decide +kernel
theorem dX3_truthOfTerm_68 : decode cX3_truthOfTerm 68 = .ok (.iload 4, 2) := by decide +kernel
theorem dX3_truthOfTerm_70 : decode cX3_truthOfTerm 70 = .ok (.iadd, 1) := by decide +kernel
theorem dX3_truthOfTerm_71 : decode cX3_truthOfTerm 71 = .ok (.iaload, 1) := by decide +kernel
theorem dX3_truthOfTerm_72 : decode cX3_truthOfTerm 72 = .ok (.invokevirtual 46, 3) := by decide +kernel
theorem dX3_truthOfTerm_75 : decode cX3_truthOfTerm 75 = .ok (.istore 6, 2) := by decide +kernel
theorem dX3_truthOfTerm_77 : decode cX3_truthOfTerm 77 = .ok (.aload_n 0, 1) := by decide +kernel
theorem dX3_truthOfTerm_78 : decode cX3_truthOfTerm 78 = .ok (.getfield 9, 3) := by decide +kernel
theorem dX3_truthOfTerm_81 : decode cX3_truthOfTerm 81 = .ok (.iload_n 3, 1) := by decide +kernel
theorem dX3_truthOfTerm_82 : decode cX3_truthOfTerm 82 = .ok (.iaload, 1) := by decide +kernel
theorem dX3_truthOfTerm_83 : decode cX3_truthOfTerm 83 = .ok (.iconst 3, 1) := by decide +kernel
theorem dX3_truthOfTerm_84 : decode cX3_truthOfTerm 84 = .ok (.if_icmp .ne 16, 3) := by decide +kernel
theorem dX3_truthOfTerm_87 : decode cX3_truthOfTerm 87 = .ok (.iload 6, 2) := by decide +kernel
theorem dX3_truthOfTerm_89 : decode cX3_truthOfTerm 89 = .ok (.ifCond .ne 7, 3) := by decide +kernel
theorem dX3_truthOfTerm_92 : decode cX3_truthOfTerm 92 = .ok (.iconst 1, 1) := by decide +kernel
theorem dX3_truthOfTerm_93 : decode cX3_truthOfTerm 93 = .ok (.goto 34, 3) := by decide +kernel
theorem dX3_truthOfTerm_96 : decode cX3_truthOfTerm 96 = .ok (.iconst 0, 1) := by decide +kernel
theorem dX3_truthOfTerm_97 : decode cX3_truthOfTerm 97 = .ok (.goto 30, 3) := by decide +kernel
theorem dX3_truthOfTerm_100 : decode cX3_truthOfTerm 100 = .ok (.iload 6, 2) := by decide +kernel
theorem dX3_truthOfTerm_102 : decode cX3_truthOfTerm 102 = .ok (.aload_n 0, 1) := by decide +kernel
theorem dX3_truthOfTerm_103 : decode cX3_truthOfTerm 103 = .ok (.getfield 9, 3) := by decide +kernel
theorem dX3_truthOfTerm_106 : decode cX3_truthOfTerm 106 = .ok (.iload_n 3, 1) := by decide +kernel
theorem dX3_truthOfTerm_107 : decode cX3_truthOfTerm 107 = .ok (.iconst 2, 1) := by decide +kernel
theorem dX3_truthOfTerm_108 : decode cX3_truthOfTerm 108 = .ok (.iadd, 1) := by decide +kernel
theorem dX3_truthOfTerm_109 : decode cX3_truthOfTerm 109 = .ok (.iload 4, 2) := by decide +kernel
theorem dX3_truthOfTerm_111 : decode cX3_truthOfTerm 111 = .ok (.iadd, 1) := by decide +kernel
theorem dX3_truthOfTerm_112 : decode cX3_truthOfTerm 112 = .ok (.iaload, 1) := by decide +kernel
theorem dX3_truthOfTerm_113 : decode cX3_truthOfTerm 113 = .ok (.aload_n 0, 1) := by decide +kernel
theorem dX3_truthOfTerm_114 : decode cX3_truthOfTerm 114 = .ok (.getfield 9, 3) := by decide +kernel
theorem dX3_truthOfTerm_117 : decode cX3_truthOfTerm 117 = .ok (.iload_n 3, 1) := by decide +kernel
theorem dX3_truthOfTerm_118 : decode cX3_truthOfTerm 118 = .ok (.iconst 3, 1) := by decide +kernel
theorem dX3_truthOfTerm_119 : decode cX3_truthOfTerm 119 = .ok (.iadd, 1) := by decide +kernel
theorem dX3_truthOfTerm_120 : decode cX3_truthOfTerm 120 = .ok (.iload 4, 2) := by decide +kernel
theorem dX3_truthOfTerm_122 : decode cX3_truthOfTerm 122 = .ok (.iadd, 1) := by decide +kernel
theorem dX3_truthOfTerm_123 : decode cX3_truthOfTerm 123 = .ok (.iaload, 1) := by decide +kernel
theorem dX3_truthOfTerm_124 : decode cX3_truthOfTerm 124 = .ok (.invokestatic 49, 3) := by decide +kernel
theorem dX3_truthOfTerm_127 : decode cX3_truthOfTerm 127 = .ok (.istore 7, 2) := by decide +kernel
theorem dX3_truthOfTerm_129 : decode cX3_truthOfTerm 129 = .ok (.iload 7, 2) := by decide +kernel
theorem dX3_truthOfTerm_131 : decode cX3_truthOfTerm 131 = .ok (.ifCond .eq 7, 3) := by decide +kernel
theorem dX3_truthOfTerm_134 : decode cX3_truthOfTerm 134 = .ok (.iconst 2, 1) := by decide +kernel
theorem dX3_truthOfTerm_135 : decode cX3_truthOfTerm 135 = .ok (.goto 4, 3) := by decide +kernel
theorem dX3_truthOfTerm_138 : decode cX3_truthOfTerm 138 = .ok (.iconst 0, 1) := by decide +kernel
theorem dX3_truthOfTerm_139 : decode cX3_truthOfTerm 139 = .ok (.ireturn, 1) := by decide +kernel
theorem dX3_compares_0 : decode cX3_compares 0 = .ok (.iload_n 1, 1) := by decide +kernel
theorem dX3_compares_1 : decode cX3_compares 1 = .ok (.bipush 61, 2) := by decide +kernel
theorem dX3_compares_3 : decode cX3_compares 3 = .ok (.if_icmp .ne 14, 3) := by decide +kernel
theorem dX3_compares_6 : decode cX3_compares 6 = .ok (.iload_n 0, 1) := by decide +kernel
theorem dX3_compares_7 : decode cX3_compares 7 = .ok (.iload_n 2, 1) := by decide +kernel
theorem dX3_compares_8 : decode cX3_compares 8 = .ok (.if_icmp .ne 7, 3) := by decide +kernel
theorem dX3_compares_11 : decode cX3_compares 11 = .ok (.iconst 1, 1) := by decide +kernel
theorem dX3_compares_12 : decode cX3_compares 12 = .ok (.goto 4, 3) := by decide +kernel
theorem dX3_compares_15 : decode cX3_compares 15 = .ok (.iconst 0, 1) := by decide +kernel
theorem dX3_compares_16 : decode cX3_compares 16 = .ok (.ireturn, 1) := by decide +kernel
theorem dX3_compares_17 : decode cX3_compares 17 = .ok (.iload_n 1, 1) := by decide +kernel
theorem dX3_compares_18 : decode cX3_compares 18 = .ok (.bipush 60, 2) := by decide +kernel
theorem dX3_compares_20 : decode cX3_compares 20 = .ok (.if_icmp .ne 16, 3) := by decide +kernel
theorem dX3_compares_23 : decode cX3_compares 23 = .ok (.iload_n 0, 1) := by decide +kernel
theorem dX3_compares_24 : decode cX3_compares 24 = .ok (.iload_n 2, 1) := by decide +kernel
theorem dX3_compares_25 : decode cX3_compares 25 = .ok (.if_icmp .ge 7, 3) := by decide +kernel
theorem dX3_compares_28 : decode cX3_compares 28 = .ok (.iconst 1, 1) := by decide +kernel
theorem dX3_compares_29 : decode cX3_compares 29 = .ok (.goto 17, 3) := by decide +kernel
theorem dX3_compares_32 : decode cX3_compares 32 = .ok (.iconst 0, 1) := by decide +kernel
theorem dX3_compares_33 : decode cX3_compares 33 = .ok (.goto 13, 3) := by decide +kernel
theorem dX3_compares_36 : decode cX3_compares 36 = .ok (.iload_n 0, 1) := by decide +kernel
theorem dX3_compares_37 : decode cX3_compares 37 = .ok (.iload_n 2, 1) := by decide +kernel
theorem dX3_compares_38 : decode cX3_compares 38 = .ok (.if_icmp .le 7, 3) := by decide +kernel
theorem dX3_compares_41 : decode cX3_compares 41 = .ok (.iconst 1, 1) := by decide +kernel
theorem dX3_compares_42 : decode cX3_compares 42 = .ok (.goto 4, 3) := by decide +kernel
theorem dX3_compares_45 : decode cX3_compares 45 = .ok (.iconst 0, 1) := by decide +kernel
theorem dX3_compares_46 : decode cX3_compares 46 = .ok (.ireturn, 1) := by decide +kernel
theorem dX4_init_0 : decode cX4_init 0 = .ok (.aload_n 0, 1) := by decide +kernel
theorem dX4_init_1 : decode cX4_init 1 = .ok (.invokespecial 3, 3) := by decide +kernel
theorem dX4_init_4 : decode cX4_init 4 = .ok (.aload_n 0, 1) := by decide +kernel
theorem dX4_init_5 : decode cX4_init 5 = .ok (.bipush 64, 2) := by decide +kernel
theorem dX4_init_7 : decode cX4_init 7 = .ok (.newarray .int, 2) := by decide +kernel
theorem dX4_init_9 : decode cX4_init 9 = .ok (.putfield 11, 3) := by decide +kernel
theorem dX4_init_12 : decode cX4_init 12 = .ok (.aload_n 0, 1) := by decide +kernel
theorem dX4_init_13 : decode cX4_init 13 = .ok (.aload_n 1, 1) := by decide +kernel
theorem dX4_init_14 : decode cX4_init 14 = .ok (.putfield 15, 3) := by decide +kernel
theorem dX4_init_17 : decode cX4_init 17 = .ok (.aload_n 0, 1) := by decide +kernel
theorem dX4_init_18 : decode cX4_init 18 = .ok (.aload_n 2, 1) := by decide +kernel
theorem dX4_init_19 : decode cX4_init 19 = .ok (.putfield 19, 3) := by decide +kernel
theorem dX4_init_22 : decode cX4_init 22 = .ok (.return_, 1) := by decide +kernel
theorem dX4_readQuestion_0 : decode cX4_readQuestion 0 = .ok (.aload_n 0, 1) := by decide +kernel
theorem dX4_readQuestion_1 : decode cX4_readQuestion 1 = .ok (.aload_n 1, 1) := by decide +kernel
theorem dX4_readQuestion_2 : decode cX4_readQuestion 2 = .ok (.putfield 23, 3) := by decide +kernel
theorem dX4_readQuestion_5 : decode cX4_readQuestion 5 = .ok (.aload_n 0, 1) := by decide +kernel
theorem dX4_readQuestion_6 : decode cX4_readQuestion 6 = .ok (.getfield 15, 3) := by decide +kernel
theorem dX4_readQuestion_9 : decode cX4_readQuestion 9 = .ok (.invokevirtual 27, 3) := by decide +kernel
theorem dX4_readQuestion_12 : decode cX4_readQuestion 12 = .ok (.ifCond .ne 11, 3) := by decide +kernel
theorem dX4_readQuestion_15 : decode cX4_readQuestion 15 = .ok (.aload_n 0, 1) := by decide +kernel
theorem dX4_readQuestion_16 : decode cX4_readQuestion 16 = .ok (.getfield 15, 3) := by decide +kernel
theorem dX4_readQuestion_19 : decode cX4_readQuestion 19 = .ok (.invokevirtual 33, 3) := by decide +kernel
theorem dX4_readQuestion_22 : decode cX4_readQuestion 22 = .ok (.ireturn, 1) := by decide +kernel
theorem dX4_readQuestion_23 : decode cX4_readQuestion 23 = .ok (.aload_n 0, 1) := by decide +kernel
theorem dX4_readQuestion_24 : decode cX4_readQuestion 24 = .ok (.getfield 23, 3) := by decide +kernel
theorem dX4_readQuestion_27 : decode cX4_readQuestion 27 = .ok (.aload_n 0, 1) := by decide +kernel
theorem dX4_readQuestion_28 : decode cX4_readQuestion 28 = .ok (.getfield 15, 3) := by decide +kernel
theorem dX4_readQuestion_31 : decode cX4_readQuestion 31 = .ok (.invokevirtual 36, 3) := by decide +kernel
theorem dX4_readQuestion_34 : decode cX4_readQuestion 34 = .ok (.invokevirtual 40, 3) := by decide +kernel
theorem dX4_readQuestion_37 : decode cX4_readQuestion 37 = .ok (.istore_n 2, 1) := by decide +kernel
theorem dX4_readQuestion_38 : decode cX4_readQuestion 38 = .ok (.iload_n 2, 1) := by decide +kernel
theorem dX4_readQuestion_39 : decode cX4_readQuestion 39 = .ok (.iconst (-1), 1) := by decide +kernel
theorem dX4_readQuestion_40 : decode cX4_readQuestion 40 = .ok (.if_icmp .ne 12, 3) := by decide +kernel
theorem dX4_readQuestion_43 : decode cX4_readQuestion 43 = .ok (.aload_n 0, 1) := by decide +kernel
theorem dX4_readQuestion_44 : decode cX4_readQuestion 44 = .ok (.getfield 15, 3) := by decide +kernel
theorem dX4_readQuestion_47 : decode cX4_readQuestion 47 = .ok (.iconst 3, 1) := by decide +kernel
theorem dX4_readQuestion_48 : decode cX4_readQuestion 48 = .ok (.invokevirtual 46, 3) := by decide +kernel
theorem dX4_readQuestion_51 : decode cX4_readQuestion 51 = .ok (.ireturn, 1) := by decide +kernel
theorem dX4_readQuestion_52 : decode cX4_readQuestion 52 = .ok (.aload_n 0, 1) := by decide +kernel
theorem dX4_readQuestion_53 : decode cX4_readQuestion 53 = .ok (.getfield 19, 3) := by decide +kernel
theorem dX4_readQuestion_56 : decode cX4_readQuestion 56 = .ok (.iload_n 2, 1) := by decide +kernel
theorem dX4_readQuestion_57 : decode cX4_readQuestion 57 = .ok (.invokevirtual 50, 3) := by decide +kernel
theorem dX4_readQuestion_60 : decode cX4_readQuestion 60 = .ok (.aload_n 0, 1) := by decide +kernel
theorem dX4_readQuestion_61 : decode cX4_readQuestion 61 = .ok (.getfield 15, 3) := by decide +kernel
theorem dX4_readQuestion_64 : decode cX4_readQuestion 64 = .ok (.invokevirtual 56, 3) := by decide +kernel
theorem dX4_readQuestion_67 : decode cX4_readQuestion 67 = .ok (.aload_n 0, 1) := by decide +kernel
theorem dX4_readQuestion_68 : decode cX4_readQuestion 68 = .ok (.getfield 15, 3) := by decide +kernel
theorem dX4_readQuestion_71 : decode cX4_readQuestion 71 = .ok (.invokevirtual 59, 3) := by decide +kernel
theorem dX4_readQuestion_74 : decode cX4_readQuestion 74 = .ok (.ifCond .eq 5, 3) := by decide +kernel
theorem dX4_readQuestion_77 : decode cX4_readQuestion 77 = .ok (.iconst 1, 1) := by decide +kernel
theorem dX4_readQuestion_78 : decode cX4_readQuestion 78 = .ok (.ireturn, 1) := by decide +kernel
theorem dX4_readQuestion_79 : decode cX4_readQuestion 79 = .ok (.aload_n 0, 1) := by decide +kernel
theorem dX4_readQuestion_80 : decode cX4_readQuestion 80 = .ok (.getfield 15, 3) := by decide +kernel
theorem dX4_readQuestion_83 : decode cX4_readQuestion 83 = .ok (.ldc2_w 62, 3) := by decide +kernel
theorem dX4_readQuestion_86 : decode cX4_readQuestion 86 = .ok (.invokevirtual 64, 3) := by decide +kernel
theorem dX4_readQuestion_89 : decode cX4_readQuestion 89 = .ok (.ifCond .eq 14, 3) := by decide +kernel
theorem dX4_readQuestion_92 : decode cX4_readQuestion 92 = .ok (.aload_n 0, 1) := by decide +kernel
theorem dX4_readQuestion_93 : decode cX4_readQuestion 93 = .ok (.invokevirtual 68, 3) := by decide +kernel
theorem dX4_readQuestion_96 : decode cX4_readQuestion 96 = .ok (.ifCond .eq 7, 3) := by decide +kernel
theorem dX4_readQuestion_99 : decode cX4_readQuestion 99 = .ok (.iconst 1, 1) := by decide +kernel
theorem dX4_readQuestion_100 : decode cX4_readQuestion 100 = .ok (.goto 4, 3) := by decide +kernel
theorem dX4_readQuestion_103 : decode cX4_readQuestion 103 = .ok (.iconst 0, 1) := by decide +kernel
theorem dX4_readQuestion_104 : decode cX4_readQuestion 104 = .ok (.ireturn, 1) := by decide +kernel
theorem dX4_readTerms_0 : decode cX4_readTerms 0 = .ok (.aload_n 0, 1) := by decide +kernel
theorem dX4_readTerms_1 : decode cX4_readTerms 1 = .ok (.iconst 0, 1) := by decide +kernel
theorem dX4_readTerms_2 : decode cX4_readTerms 2 = .ok (.putfield 71, 3) := by decide +kernel
theorem dX4_readTerms_5 : decode cX4_readTerms 5 = .ok (.aload_n 0, 1) := by decide +kernel
theorem dX4_readTerms_6 : decode cX4_readTerms 6 = .ok (.iconst 0, 1) := by decide +kernel
theorem dX4_readTerms_7 : decode cX4_readTerms 7 = .ok (.putfield 75, 3) := by decide +kernel
theorem dX4_readTerms_10 : decode cX4_readTerms 10 = .ok (.iconst 0, 1) := by decide +kernel
theorem dX4_readTerms_11 : decode cX4_readTerms 11 = .ok (.istore_n 1, 1) := by decide +kernel
theorem dX4_readTerms_12 : decode cX4_readTerms 12 = .ok (.iload_n 1, 1) := by decide +kernel
theorem dX4_readTerms_13 : decode cX4_readTerms 13 = .ok (.sipush 3000, 3) := by decide +kernel
theorem dX4_readTerms_16 : decode cX4_readTerms 16 = .ok (.if_icmp .gt 81, 3) := by decide +kernel
theorem dX4_readTerms_19 : decode cX4_readTerms 19 = .ok (.aload_n 0, 1) := by decide +kernel
theorem dX4_readTerms_20 : decode cX4_readTerms 20 = .ok (.invokevirtual 78, 3) := by decide +kernel
theorem dX4_readTerms_23 : decode cX4_readTerms 23 = .ok (.ifCond .eq 10, 3) := by decide +kernel
theorem dX4_readTerms_26 : decode cX4_readTerms 26 = .ok (.aload_n 0, 1) := by decide +kernel
theorem dX4_readTerms_27 : decode cX4_readTerms 27 = .ok (.invokevirtual 81, 3) := by decide +kernel
theorem dX4_readTerms_30 : decode cX4_readTerms 30 = .ok (.ifCond .ne 5, 3) := by decide +kernel
theorem dX4_readTerms_33 : decode cX4_readTerms 33 = .ok (.iconst 0, 1) := by decide +kernel
theorem dX4_readTerms_34 : decode cX4_readTerms 34 = .ok (.ireturn, 1) := by decide +kernel
theorem dX4_readTerms_35 : decode cX4_readTerms 35 = .ok (.aload_n 0, 1) := by decide +kernel
theorem dX4_readTerms_36 : decode cX4_readTerms 36 = .ok (.invokevirtual 84, 3) := by decide +kernel
theorem dX4_readTerms_39 : decode cX4_readTerms 39 = .ok (.ifCond .ne 5, 3) := by decide +kernel
theorem dX4_readTerms_42 : decode cX4_readTerms 42 = .ok (.iconst 0, 1) := by decide +kernel
theorem dX4_readTerms_43 : decode cX4_readTerms 43 = .ok (.ireturn, 1) := by decide +kernel
theorem dX4_readTerms_44 : decode cX4_readTerms 44 = .ok (.aload_n 0, 1) := by decide +kernel
theorem dX4_readTerms_45 : decode cX4_readTerms 45 = .ok (.getfield 15, 3) := by decide +kernel
theorem dX4_readTerms_48 : decode cX4_readTerms 48 = .ok (.invokevirtual 59, 3) := by decide +kernel
theorem dX4_readTerms_51 : decode cX4_readTerms 51 = .ok (.ifCond .eq 31, 3) := by decide +kernel
theorem dX4_readTerms_54 : decode cX4_readTerms 54 = .ok (.aload_n 0, 1) := by decide +kernel
theorem dX4_readTerms_55 : decode cX4_readTerms 55 = .ok (.iconst 2, 1) := by decide +kernel
theorem dX4_readTerms_56 : decode cX4_readTerms 56 = .ok (.invokevirtual 87, 3) := by decide +kernel
theorem dX4_readTerms_59 : decode cX4_readTerms 59 = .ok (.aload_n 0, 1) := by decide +kernel
theorem dX4_readTerms_60 : decode cX4_readTerms 60 = .ok (.getfield 71, 3) := by decide +kernel
theorem dX4_readTerms_63 : decode cX4_readTerms 63 = .ok (.ifCond .eq 13, 3) := by decide +kernel
theorem dX4_readTerms_66 : decode cX4_readTerms 66 = .ok (.aload_n 0, 1) := by decide +kernel
theorem dX4_readTerms_67 : decode cX4_readTerms 67 = .ok (.getfield 15, 3) := by decide +kernel
theorem dX4_readTerms_70 : decode cX4_readTerms 70 = .ok (.invokevirtual 33, 3) := by decide +kernel
theorem dX4_readTerms_73 : decode cX4_readTerms 73 = .ok (.ifCond .eq 7, 3) := by decide +kernel
theorem dX4_readTerms_76 : decode cX4_readTerms 76 = .ok (.iconst 1, 1) := by decide +kernel
theorem dX4_readTerms_77 : decode cX4_readTerms 77 = .ok (.goto 4, 3) := by decide +kernel
theorem dX4_readTerms_80 : decode cX4_readTerms 80 = .ok (.iconst 0, 1) := by decide +kernel
theorem dX4_readTerms_81 : decode cX4_readTerms 81 = .ok (.ireturn, 1) := by decide +kernel
theorem dX4_readTerms_82 : decode cX4_readTerms 82 = .ok (.aload_n 0, 1) := by decide +kernel
theorem dX4_readTerms_83 : decode cX4_readTerms 83 = .ok (.invokevirtual 90, 3) := by decide +kernel
theorem dX4_readTerms_86 : decode cX4_readTerms 86 = .ok (.ifCond .ne 5, 3) := by decide +kernel
theorem dX4_readTerms_89 : decode cX4_readTerms 89 = .ok (.iconst 0, 1) := by decide +kernel
theorem dX4_readTerms_90 : decode cX4_readTerms 90 = .ok (.ireturn, 1) := by decide +kernel
theorem dX4_readTerms_91 : decode cX4_readTerms 91 = .ok (.iinc 1 1, 3) := by decide +kernel
theorem dX4_readTerms_94 : decode cX4_readTerms 94 = .ok (.goto (-82), 3) := by decide +kernel
theorem dX4_readTerms_97 : decode cX4_readTerms 97 = .ok (.aload_n 0, 1) := by decide +kernel
theorem dX4_readTerms_98 : decode cX4_readTerms 98 = .ok (.getfield 15, 3) := by decide +kernel
theorem dX4_readTerms_101 : decode cX4_readTerms 101 = .ok (.invokevirtual 33, 3) := by decide +kernel
theorem dX4_readTerms_104 : decode cX4_readTerms 104 = .ok (.ireturn, 1) := by decide +kernel
theorem dX4_readOpenings_0 : decode cX4_readOpenings 0 = .ok (.iconst 0, 1) := by decide +kernel
theorem dX4_readOpenings_1 : decode cX4_readOpenings 1 = .ok (.istore_n 1, 1) := by decide +kernel
theorem dX4_readOpenings_2 : decode cX4_readOpenings 2 = .ok (.iload_n 1, 1) := by decide +kernel
theorem dX4_readOpenings_3 : decode cX4_readOpenings 3 = .ok (.sipush 3000, 3) := by decide +kernel
theorem dX4_readOpenings_6 : decode cX4_readOpenings 6 = .ok (.if_icmp .gt 61, 3) := by decide +kernel
theorem dX4_readOpenings_9 : decode cX4_readOpenings 9 = .ok (.aload_n 0, 1) := by decide +kernel
theorem dX4_readOpenings_10 : decode cX4_readOpenings 10 = .ok (.invokevirtual 93, 3) := by decide +kernel
theorem dX4_readOpenings_13 : decode cX4_readOpenings 13 = .ok (.istore_n 2, 1) := by decide +kernel
theorem dX4_readOpenings_14 : decode cX4_readOpenings 14 = .ok (.iload_n 2, 1) := by decide +kernel
theorem dX4_readOpenings_15 : decode cX4_readOpenings 15 = .ok (.iconst (-1), 1) := by decide +kernel
theorem dX4_readOpenings_16 : decode cX4_readOpenings 16 = .ok (.if_icmp .ne 5, 3) := by decide +kernel
theorem dX4_readOpenings_19 : decode cX4_readOpenings 19 = .ok (.iconst 1, 1) := by decide +kernel
theorem dX4_readOpenings_20 : decode cX4_readOpenings 20 = .ok (.ireturn, 1) := by decide +kernel
theorem dX4_readOpenings_21 : decode cX4_readOpenings 21 = .ok (.aload_n 0, 1) := by decide +kernel
theorem dX4_readOpenings_22 : decode cX4_readOpenings 22 = .ok (.getfield 75, 3) := by decide +kernel
theorem dX4_readOpenings_25 : decode cX4_readOpenings 25 = .ok (.bipush 20, 2) := by decide +kernel
theorem dX4_readOpenings_27 : decode cX4_readOpenings 27 = .ok (.if_icmp .lt 12, 3) := by decide +kernel
theorem dX4_readOpenings_30 : decode cX4_readOpenings 30 = .ok (.aload_n 0, 1) := by decide +kernel
theorem dX4_readOpenings_31 : decode cX4_readOpenings 31 = .ok (.getfield 15, 3) := by decide +kernel
theorem dX4_readOpenings_34 : decode cX4_readOpenings 34 = .ok (.iconst 4, 1) := by decide +kernel
theorem dX4_readOpenings_35 : decode cX4_readOpenings 35 = .ok (.invokevirtual 46, 3) := by decide +kernel
theorem dX4_readOpenings_38 : decode cX4_readOpenings 38 = .ok (.ireturn, 1) := by decide +kernel
theorem dX4_readOpenings_39 : decode cX4_readOpenings 39 = .ok (.aload_n 0, 1) := by decide +kernel
theorem dX4_readOpenings_40 : decode cX4_readOpenings 40 = .ok (.dup, 1) := by decide +kernel
theorem dX4_readOpenings_41 : decode cX4_readOpenings 41 = .ok (.getfield 75, 3) := by decide +kernel
theorem dX4_readOpenings_44 : decode cX4_readOpenings 44 = .ok (.iconst 1, 1) := by decide +kernel
theorem dX4_readOpenings_45 : decode cX4_readOpenings 45 = .ok (.iadd, 1) := by decide +kernel
theorem dX4_readOpenings_46 : decode cX4_readOpenings 46 = .ok (.putfield 75, 3) := by decide +kernel
theorem dX4_readOpenings_49 : decode cX4_readOpenings 49 = .ok (.aload_n 0, 1) := by decide +kernel
theorem dX4_readOpenings_50 : decode cX4_readOpenings 50 = .ok (.iload_n 2, 1) := by decide +kernel
theorem dX4_readOpenings_51 : decode cX4_readOpenings 51 = .ok (.invokevirtual 97, 3) := by decide +kernel
theorem dX4_readOpenings_54 : decode cX4_readOpenings 54 = .ok (.aload_n 0, 1) := by decide +kernel
theorem dX4_readOpenings_55 : decode cX4_readOpenings 55 = .ok (.getfield 15, 3) := by decide +kernel
theorem dX4_readOpenings_58 : decode cX4_readOpenings 58 = .ok (.invokevirtual 56, 3) := by decide +kernel
theorem dX4_readOpenings_61 : decode cX4_readOpenings 61 = .ok (.iinc 1 1, 3) := by decide +kernel
theorem dX4_readOpenings_64 : decode cX4_readOpenings 64 = .ok (.goto (-62), 3) := by decide +kernel
theorem dX4_readOpenings_67 : decode cX4_readOpenings 67 = .ok (.aload_n 0, 1) := by decide +kernel
theorem dX4_readOpenings_68 : decode cX4_readOpenings 68 = .ok (.getfield 15, 3) := by decide +kernel
theorem dX4_readOpenings_71 : decode cX4_readOpenings 71 = .ok (.invokevirtual 33, 3) := by decide +kernel
theorem dX4_readOpenings_74 : decode cX4_readOpenings 74 = .ok (.ireturn, 1) := by decide +kernel
theorem dX4_openingNow_0 : decode cX4_openingNow 0 = .ok (.aload_n 0, 1) := by decide +kernel
theorem dX4_openingNow_1 : decode cX4_openingNow 1 = .ok (.getfield 15, 3) := by decide +kernel
theorem dX4_openingNow_4 : decode cX4_openingNow 4 = .ok (.ldc2_w 100, 3) := by decide +kernel
theorem dX4_openingNow_7 : decode cX4_openingNow 7 = .ok (.invokevirtual 102, 3) := by decide +kernel
theorem dX4_openingNow_10 : decode cX4_openingNow 10 = .ok (.ifCond .eq 5, 3) := by decide +kernel
theorem dX4_openingNow_13 : decode cX4_openingNow 13 = .ok (.iconst 0, 1) := by decide +kernel
theorem dX4_openingNow_14 : decode cX4_openingNow 14 = .ok (.ireturn, 1) := by decide +kernel
theorem dX4_openingNow_15 : decode cX4_openingNow 15 = .ok (.aload_n 0, 1) := by decide +kernel
theorem dX4_openingNow_16 : decode cX4_openingNow 16 = .ok (.getfield 15, 3) := by decide +kernel
theorem dX4_openingNow_19 : decode cX4_openingNow 19 = .ok (.ldc2_w 105, 3) := by decide +kernel
theorem dX4_openingNow_22 : decode cX4_openingNow 22 = .ok (.invokevirtual 102, 3) := by decide +kernel
theorem dX4_openingNow_25 : decode cX4_openingNow 25 = .ok (.ifCond .eq 7, 3) := by decide +kernel
theorem dX4_openingNow_28 : decode cX4_openingNow 28 = .ok (.iconst 5, 1) := by decide +kernel
theorem dX4_openingNow_29 : decode cX4_openingNow 29 = .ok (.goto 4, 3) := by decide +kernel
theorem dX4_openingNow_32 : decode cX4_openingNow 32 = .ok (.iconst (-1), 1) := by decide +kernel
theorem dX4_openingNow_33 : decode cX4_openingNow 33 = .ok (.ireturn, 1) := by decide +kernel
theorem dX4_readClosings_0 : decode cX4_readClosings 0 = .ok (.iconst 0, 1) := by decide +kernel
theorem dX4_readClosings_1 : decode cX4_readClosings 1 = .ok (.istore_n 1, 1) := by decide +kernel
theorem dX4_readClosings_2 : decode cX4_readClosings 2 = .ok (.iload_n 1, 1) := by decide +kernel
theorem dX4_readClosings_3 : decode cX4_readClosings 3 = .ok (.sipush 3000, 3) := by decide +kernel
theorem dX4_readClosings_6 : decode cX4_readClosings 6 = .ok (.if_icmp .gt 69, 3) := by decide +kernel
theorem dX4_readClosings_9 : decode cX4_readClosings 9 = .ok (.aload_n 0, 1) := by decide +kernel
theorem dX4_readClosings_10 : decode cX4_readClosings 10 = .ok (.getfield 15, 3) := by decide +kernel
theorem dX4_readClosings_13 : decode cX4_readClosings 13 = .ok (.ldc2_w 107, 3) := by decide +kernel
theorem dX4_readClosings_16 : decode cX4_readClosings 16 = .ok (.invokevirtual 102, 3) := by decide +kernel
theorem dX4_readClosings_19 : decode cX4_readClosings 19 = .ok (.ifCond .eq 56, 3) := by decide +kernel
theorem dX4_readClosings_22 : decode cX4_readClosings 22 = .ok (.aload_n 0, 1) := by decide +kernel
theorem dX4_readClosings_23 : decode cX4_readClosings 23 = .ok (.iconst 2, 1) := by decide +kernel
theorem dX4_readClosings_24 : decode cX4_readClosings 24 = .ok (.invokevirtual 87, 3) := by decide +kernel
theorem dX4_readClosings_27 : decode cX4_readClosings 27 = .ok (.aload_n 0, 1) := by decide +kernel
theorem dX4_readClosings_28 : decode cX4_readClosings 28 = .ok (.getfield 71, 3) := by decide +kernel
theorem dX4_readClosings_31 : decode cX4_readClosings 31 = .ok (.ifCond .ne 11, 3) := by decide +kernel
theorem dX4_readClosings_34 : decode cX4_readClosings 34 = .ok (.aload_n 0, 1) := by decide +kernel
theorem dX4_readClosings_35 : decode cX4_readClosings 35 = .ok (.getfield 15, 3) := by decide +kernel
theorem dX4_readClosings_38 : decode cX4_readClosings 38 = .ok (.invokevirtual 33, 3) := by decide +kernel
theorem dX4_readClosings_41 : decode cX4_readClosings 41 = .ok (.ireturn, 1) := by decide +kernel
theorem dX4_readClosings_42 : decode cX4_readClosings 42 = .ok (.aload_n 0, 1) := by decide +kernel
theorem dX4_readClosings_43 : decode cX4_readClosings 43 = .ok (.dup, 1) := by decide +kernel
theorem dX4_readClosings_44 : decode cX4_readClosings 44 = .ok (.getfield 71, 3) := by decide +kernel
theorem dX4_readClosings_47 : decode cX4_readClosings 47 = .ok (.iconst 1, 1) := by decide +kernel
theorem dX4_readClosings_48 : decode cX4_readClosings 48 = .ok (.isub, 1) := by decide +kernel
theorem dX4_readClosings_49 : decode cX4_readClosings 49 = .ok (.putfield 71, 3) := by decide +kernel
theorem dX4_readClosings_52 : decode cX4_readClosings 52 = .ok (.aload_n 0, 1) := by decide +kernel
theorem dX4_readClosings_53 : decode cX4_readClosings 53 = .ok (.dup, 1) := by decide +kernel
theorem dX4_readClosings_54 : decode cX4_readClosings 54 = .ok (.getfield 75, 3) := by decide +kernel
theorem dX4_readClosings_57 : decode cX4_readClosings 57 = .ok (.iconst 1, 1) := by decide +kernel
theorem dX4_readClosings_58 : decode cX4_readClosings 58 = .ok (.isub, 1) := by decide +kernel
theorem dX4_readClosings_59 : decode cX4_readClosings 59 = .ok (.putfield 75, 3) := by decide +kernel
theorem dX4_readClosings_62 : decode cX4_readClosings 62 = .ok (.aload_n 0, 1) := by decide +kernel
theorem dX4_readClosings_63 : decode cX4_readClosings 63 = .ok (.getfield 15, 3) := by decide +kernel
theorem dX4_readClosings_66 : decode cX4_readClosings 66 = .ok (.invokevirtual 56, 3) := by decide +kernel
theorem dX4_readClosings_69 : decode cX4_readClosings 69 = .ok (.iinc 1 1, 3) := by decide +kernel
theorem dX4_readClosings_72 : decode cX4_readClosings 72 = .ok (.goto (-70), 3) := by decide +kernel
theorem dX4_readClosings_75 : decode cX4_readClosings 75 = .ok (.iconst 1, 1) := by decide +kernel
theorem dX4_readClosings_76 : decode cX4_readClosings 76 = .ok (.ireturn, 1) := by decide +kernel
theorem dX4_readJoiner_0 : decode cX4_readJoiner 0 = .ok (.iconst 1, 1) := by decide +kernel
theorem dX4_readJoiner_1 : decode cX4_readJoiner 1 = .ok (.istore_n 1, 1) := by decide +kernel
theorem dX4_readJoiner_2 : decode cX4_readJoiner 2 = .ok (.aload_n 0, 1) := by decide +kernel
theorem dX4_readJoiner_3 : decode cX4_readJoiner 3 = .ok (.getfield 15, 3) := by decide +kernel
theorem dX4_readJoiner_6 : decode cX4_readJoiner 6 = .ok (.ldc2_w 109, 3) := by decide +kernel
theorem dX4_readJoiner_9 : decode cX4_readJoiner 9 = .ok (.invokevirtual 111, 3) := by decide +kernel
theorem dX4_readJoiner_12 : decode cX4_readJoiner 12 = .ok (.ifCond .ne 20, 3) := by decide +kernel
theorem dX4_readJoiner_15 : decode cX4_readJoiner 15 = .ok (.aload_n 0, 1) := by decide +kernel
theorem dX4_readJoiner_16 : decode cX4_readJoiner 16 = .ok (.getfield 15, 3) := by decide +kernel
theorem dX4_readJoiner_19 : decode cX4_readJoiner 19 = .ok (.ldc2_w 114, 3) := by decide +kernel
theorem dX4_readJoiner_22 : decode cX4_readJoiner 22 = .ok (.invokevirtual 64, 3) := by decide +kernel
theorem dX4_readJoiner_25 : decode cX4_readJoiner 25 = .ok (.ifCond .ne 5, 3) := by decide +kernel
theorem dX4_readJoiner_28 : decode cX4_readJoiner 28 = .ok (.iconst 0, 1) := by decide +kernel
theorem dX4_readJoiner_29 : decode cX4_readJoiner 29 = .ok (.ireturn, 1) := by decide +kernel
theorem dX4_readJoiner_30 : decode cX4_readJoiner 30 = .ok (.iconst 2, 1) := by decide +kernel
theorem dX4_readJoiner_31 : decode cX4_readJoiner 31 = .ok (.istore_n 1, 1) := by decide +kernel
theorem dX4_readJoiner_32 : decode cX4_readJoiner 32 = .ok (.aload_n 0, 1) := by decide +kernel
theorem dX4_readJoiner_33 : decode cX4_readJoiner 33 = .ok (.iload_n 1, 1) := by decide +kernel
theorem dX4_readJoiner_34 : decode cX4_readJoiner 34 = .ok (.invokevirtual 87, 3) := by decide +kernel
theorem dX4_readJoiner_37 : decode cX4_readJoiner 37 = .ok (.aload_n 0, 1) := by decide +kernel
theorem dX4_readJoiner_38 : decode cX4_readJoiner 38 = .ok (.iload_n 1, 1) := by decide +kernel
theorem dX4_readJoiner_39 : decode cX4_readJoiner 39 = .ok (.invokevirtual 97, 3) := by decide +kernel
theorem dX4_readJoiner_42 : decode cX4_readJoiner 42 = .ok (.iconst 1, 1) := by decide +kernel
theorem dX4_readJoiner_43 : decode cX4_readJoiner 43 = .ok (.ireturn, 1) := by decide +kernel
theorem dX4_joinDown_0 : decode cX4_joinDown 0 = .ok (.aload_n 0, 1) := by decide +kernel
theorem dX4_joinDown_1 : decode cX4_joinDown 1 = .ok (.getfield 71, 3) := by decide +kernel
theorem dX4_joinDown_4 : decode cX4_joinDown 4 = .ok (.ifCond .le 69, 3) := by decide +kernel
theorem dX4_joinDown_7 : decode cX4_joinDown 7 = .ok (.aload_n 0, 1) := by decide +kernel
theorem dX4_joinDown_8 : decode cX4_joinDown 8 = .ok (.getfield 11, 3) := by decide +kernel
theorem dX4_joinDown_11 : decode cX4_joinDown 11 = .ok (.aload_n 0, 1) := by decide +kernel
theorem dX4_joinDown_12 : decode cX4_joinDown 12 = .ok (.getfield 71, 3) := by decide +kernel
theorem dX4_joinDown_15 : decode cX4_joinDown 15 = .ok (.iconst 1, 1) := by decide +kernel
theorem dX4_joinDown_16 : decode cX4_joinDown 16 = .ok (.isub, 1) := by decide +kernel
theorem dX4_joinDown_17 : decode cX4_joinDown 17 = .ok (.iaload, 1) := by decide +kernel
theorem dX4_joinDown_18 : decode cX4_joinDown 18 = .ok (.iload_n 1, 1) := by decide +kernel
theorem dX4_joinDown_19 : decode cX4_joinDown 19 = .ok (.if_icmp .gt 54, 3) := by decide +kernel
theorem dX4_joinDown_22 : decode cX4_joinDown 22 = .ok (.aload_n 0, 1) := by decide +kernel
theorem dX4_joinDown_23 : decode cX4_joinDown 23 = .ok (.dup, 1) := by decide +kernel
theorem dX4_joinDown_24 : decode cX4_joinDown 24 = .ok (.getfield 71, 3) := by decide +kernel
theorem dX4_joinDown_27 : decode cX4_joinDown 27 = .ok (.iconst 1, 1) := by decide +kernel
theorem dX4_joinDown_28 : decode cX4_joinDown 28 = .ok (.isub, 1) := by decide +kernel
theorem dX4_joinDown_29 : decode cX4_joinDown 29 = .ok (.putfield 71, 3) := by decide +kernel
theorem dX4_joinDown_32 : decode cX4_joinDown 32 = .ok (.aload_n 0, 1) := by decide +kernel
theorem dX4_joinDown_33 : decode cX4_joinDown 33 = .ok (.getfield 11, 3) := by decide +kernel
theorem dX4_joinDown_36 : decode cX4_joinDown 36 = .ok (.aload_n 0, 1) := by decide +kernel
theorem dX4_joinDown_37 : decode cX4_joinDown 37 = .ok (.getfield 71, 3) := by decide +kernel
theorem dX4_joinDown_40 : decode cX4_joinDown 40 = .ok (.iaload, 1) := by decide +kernel
theorem dX4_joinDown_41 : decode cX4_joinDown 41 = .ok (.ifCond .ne 13, 3) := by decide +kernel
theorem dX4_joinDown_44 : decode cX4_joinDown 44 = .ok (.aload_n 0, 1) := by decide +kernel
theorem dX4_joinDown_45 : decode cX4_joinDown 45 = .ok (.dup, 1) := by decide +kernel
theorem dX4_joinDown_46 : decode cX4_joinDown 46 = .ok (.getfield 75, 3) := by decide +kernel
theorem dX4_joinDown_49 : decode cX4_joinDown 49 = .ok (.iconst 1, 1) := by decide +kernel
theorem dX4_joinDown_50 : decode cX4_joinDown 50 = .ok (.isub, 1) := by decide +kernel
theorem dX4_joinDown_51 : decode cX4_joinDown 51 = .ok (.putfield 75, 3) := by decide +kernel
theorem dX4_joinDown_54 : decode cX4_joinDown 54 = .ok (.aload_n 0, 1) := by decide +kernel
theorem dX4_joinDown_55 : decode cX4_joinDown 55 = .ok (.getfield 19, 3) := by decide +kernel
theorem dX4_joinDown_58 : decode cX4_joinDown 58 = .ok (.aload_n 0, 1) := by decide +kernel
theorem dX4_joinDown_59 : decode cX4_joinDown 59 = .ok (.getfield 11, 3) := by decide +kernel
theorem dX4_joinDown_62 : decode cX4_joinDown 62 = .ok (.aload_n 0, 1) := by decide +kernel
theorem dX4_joinDown_63 : decode cX4_joinDown 63 = .ok (.getfield 71, 3) := by decide +kernel
theorem dX4_joinDown_66 : decode cX4_joinDown 66 = .ok (.iaload, 1) := by decide +kernel
theorem dX4_joinDown_67 : decode cX4_joinDown 67 = .ok (.invokevirtual 116, 3) := by decide +kernel
theorem dX4_joinDown_70 : decode cX4_joinDown 70 = .ok (.goto (-70), 3) := by decide +kernel
theorem dX4_joinDown_73 : decode cX4_joinDown 73 = .ok (.return_, 1) := by decide +kernel
theorem dX4_push_0 : decode cX4_push 0 = .ok (.aload_n 0, 1) := by decide +kernel
theorem dX4_push_1 : decode cX4_push 1 = .ok (.getfield 71, 3) := by decide +kernel
theorem dX4_push_4 : decode cX4_push 4 = .ok (.aload_n 0, 1) := by decide +kernel
theorem dX4_push_5 : decode cX4_push 5 = .ok (.getfield 11, 3) := by decide +kernel
theorem dX4_push_8 : decode cX4_push 8 = .ok (.arraylength, 1) := by decide +kernel
theorem dX4_push_9 : decode cX4_push 9 = .ok (.if_icmp .ge 23, 3) := by decide +kernel
theorem dX4_push_12 : decode cX4_push 12 = .ok (.aload_n 0, 1) := by decide +kernel
theorem dX4_push_13 : decode cX4_push 13 = .ok (.getfield 11, 3) := by decide +kernel
theorem dX4_push_16 : decode cX4_push 16 = .ok (.aload_n 0, 1) := by decide +kernel
theorem dX4_push_17 : decode cX4_push 17 = .ok (.getfield 71, 3) := by decide +kernel
theorem dX4_push_20 : decode cX4_push 20 = .ok (.iload_n 1, 1) := by decide +kernel
theorem dX4_push_21 : decode cX4_push 21 = .ok (.iastore, 1) := by decide +kernel
theorem dX4_push_22 : decode cX4_push 22 = .ok (.aload_n 0, 1) := by decide +kernel
theorem dX4_push_23 : decode cX4_push 23 = .ok (.dup, 1) := by decide +kernel
