theorem dX10_nextInsert_79 : decode cX10_nextInsert 79 = .ok (.istore_n 3, 1) := by decide +kernel
theorem dX10_nextInsert_80 : decode cX10_nextInsert 80 = .ok (.iinc 4 1, 3) := by decide +kernel
theorem dX10_nextInsert_83 : decode cX10_nextInsert 83 = .ok (.goto (-76), 3) := by decide +kernel
theorem dX10_nextInsert_86 : decode cX10_nextInsert 86 = .ok (.aload_n 2, 1) := by decide +kernel
theorem dX10_nextInsert_87 : decode cX10_nextInsert 87 = .ok (.ifnull 8, 3) := by decide +kernel
theorem dX10_nextInsert_90 : decode cX10_nextInsert 90 = .ok (.aload_n 2, 1) := by decide +kernel
theorem dX10_nextInsert_91 : decode cX10_nextInsert 91 = .ok (.iload_n 3, 1) := by decide +kernel
theorem dX10_nextInsert_92 : decode cX10_nextInsert 92 = .ok (.putfield 112, 3) := by decide +kernel
theorem dX10_nextInsert_95 : decode cX10_nextInsert 95 = .ok (.aload_n 2, 1) := by decide +kernel
theorem dX10_nextInsert_96 : decode cX10_nextInsert 96 = .ok (.areturn, 1) := by decide +kernel
theorem dX10_earlyReferences_0 : decode cX10_earlyReferences 0 = .ok (.aload_n 0, 1) := by decide +kernel
theorem dX10_earlyReferences_1 : decode cX10_earlyReferences 1 = .ok (.getfield 43, 3) := by decide +kernel
theorem dX10_earlyReferences_4 : decode cX10_earlyReferences 4 = .ok (.getfield 49, 3) := by decide +kernel
theorem dX10_earlyReferences_7 : decode cX10_earlyReferences 7 = .ok (.getfield 161, 3) := by decide +kernel
theorem dX10_earlyReferences_10 : decode cX10_earlyReferences 10 = .ok (.aload_n 2, 1) := by decide +kernel
theorem dX10_earlyReferences_11 : decode cX10_earlyReferences 11 = .ok (.getfield 165, 3) := by decide +kernel
theorem dX10_earlyReferences_14 : decode cX10_earlyReferences 14 = .ok (.aaload, 1) := by decide +kernel
theorem dX10_earlyReferences_15 : decode cX10_earlyReferences 15 = .ok (.astore_n 3, 1) := by decide +kernel
theorem dX10_earlyReferences_16 : decode cX10_earlyReferences 16 = .ok (.iconst 0, 1) := by decide +kernel
theorem dX10_earlyReferences_17 : decode cX10_earlyReferences 17 = .ok (.istore 4, 2) := by decide +kernel
theorem dX10_earlyReferences_19 : decode cX10_earlyReferences 19 = .ok (.iconst 0, 1) := by decide +kernel
theorem dX10_earlyReferences_20 : decode cX10_earlyReferences 20 = .ok (.istore 5, 2) := by decide +kernel
theorem dX10_earlyReferences_22 : decode cX10_earlyReferences 22 = .ok (.iload 5, 2) := by decide +kernel
theorem dX10_earlyReferences_24 : decode cX10_earlyReferences 24 = .ok (.aload_n 3, 1) := by decide +kernel
theorem dX10_earlyReferences_25 : decode cX10_earlyReferences 25 = .ok (.getfield 167, 3) := by decide +kernel
theorem dX10_earlyReferences_28 : decode cX10_earlyReferences 28 = .ok (.if_icmp .ge 107, 3) := by decide +kernel
theorem dX10_earlyReferences_31 : decode cX10_earlyReferences 31 = .ok (.aload_n 3, 1) := by decide +kernel
theorem dX10_earlyReferences_32 : decode cX10_earlyReferences 32 = .ok (.getfield 172, 3) := by decide +kernel
theorem dX10_earlyReferences_35 : decode cX10_earlyReferences 35 = .ok (.iload 5, 2) := by decide +kernel
theorem dX10_earlyReferences_37 : decode cX10_earlyReferences 37 = .ok (.aaload, 1) := by decide +kernel
theorem dX10_earlyReferences_38 : decode cX10_earlyReferences 38 = .ok (.getfield 176, 3) := by decide +kernel
theorem dX10_earlyReferences_41 : decode cX10_earlyReferences 41 = .ok (.iconst 4, 1) := by decide +kernel
theorem dX10_earlyReferences_42 : decode cX10_earlyReferences 42 = .ok (.if_icmp .ne 87, 3) := by decide +kernel
theorem dX10_earlyReferences_45 : decode cX10_earlyReferences 45 = .ok (.aload_n 2, 1) := by decide +kernel
theorem dX10_earlyReferences_46 : decode cX10_earlyReferences 46 = .ok (.getfield 181, 3) := by decide +kernel
theorem dX10_earlyReferences_49 : decode cX10_earlyReferences 49 = .ok (.iload 5, 2) := by decide +kernel
theorem dX10_earlyReferences_51 : decode cX10_earlyReferences 51 = .ok (.iaload, 1) := by decide +kernel
theorem dX10_earlyReferences_52 : decode cX10_earlyReferences 52 = .ok (.ifCond .eq 77, 3) := by decide +kernel
theorem dX10_earlyReferences_55 : decode cX10_earlyReferences 55 = .ok (.aload_n 0, 1) := by decide +kernel
theorem dX10_earlyReferences_56 : decode cX10_earlyReferences 56 = .ok (.getfield 43, 3) := by decide +kernel
theorem dX10_earlyReferences_59 : decode cX10_earlyReferences 59 = .ok (.getfield 49, 3) := by decide +kernel
theorem dX10_earlyReferences_62 : decode cX10_earlyReferences 62 = .ok (.aload_n 3, 1) := by decide +kernel
theorem dX10_earlyReferences_63 : decode cX10_earlyReferences 63 = .ok (.getfield 172, 3) := by decide +kernel
theorem dX10_earlyReferences_66 : decode cX10_earlyReferences 66 = .ok (.iload 5, 2) := by decide +kernel
theorem dX10_earlyReferences_68 : decode cX10_earlyReferences 68 = .ok (.aaload, 1) := by decide +kernel
theorem dX10_earlyReferences_69 : decode cX10_earlyReferences 69 = .ok (.getfield 184, 3) := by decide +kernel
theorem dX10_earlyReferences_72 : decode cX10_earlyReferences 72 = .ok (.invokevirtual 187, 3) := by decide +kernel
theorem dX10_earlyReferences_75 : decode cX10_earlyReferences 75 = .ok (.istore 6, 2) := by decide +kernel
theorem dX10_earlyReferences_77 : decode cX10_earlyReferences 77 = .ok (.aload_n 1, 1) := by decide +kernel
theorem dX10_earlyReferences_78 : decode cX10_earlyReferences 78 = .ok (.iload 6, 2) := by decide +kernel
theorem dX10_earlyReferences_80 : decode cX10_earlyReferences 80 = .ok (.aload_n 2, 1) := by decide +kernel
theorem dX10_earlyReferences_81 : decode cX10_earlyReferences 81 = .ok (.getfield 181, 3) := by decide +kernel
theorem dX10_earlyReferences_84 : decode cX10_earlyReferences 84 = .ok (.iload 5, 2) := by decide +kernel
theorem dX10_earlyReferences_86 : decode cX10_earlyReferences 86 = .ok (.iaload, 1) := by decide +kernel
theorem dX10_earlyReferences_87 : decode cX10_earlyReferences 87 = .ok (.invokevirtual 190, 3) := by decide +kernel
theorem dX10_earlyReferences_90 : decode cX10_earlyReferences 90 = .ok (.astore 7, 2) := by decide +kernel
theorem dX10_earlyReferences_92 : decode cX10_earlyReferences 92 = .ok (.aload 7, 2) := by decide +kernel
theorem dX10_earlyReferences_94 : decode cX10_earlyReferences 94 = .ok (.ifnull 35, 3) := by decide +kernel
theorem dX10_earlyReferences_97 : decode cX10_earlyReferences 97 = .ok (.aload 7, 2) := by decide +kernel
theorem dX10_earlyReferences_99 : decode cX10_earlyReferences 99 = .ok (.aload_n 2, 1) := by decide +kernel
theorem dX10_earlyReferences_100 : decode cX10_earlyReferences 100 = .ok (.if_acmp .eq 29, 3) := by decide +kernel
theorem dX10_earlyReferences_103 : decode cX10_earlyReferences 103 = .ok (.aload 7, 2) := by decide +kernel
theorem dX10_earlyReferences_105 : decode cX10_earlyReferences 105 = .ok (.getfield 118, 3) := by decide +kernel
theorem dX10_earlyReferences_108 : decode cX10_earlyReferences 108 = .ok (.iconst 2, 1) := by decide +kernel
theorem dX10_earlyReferences_109 : decode cX10_earlyReferences 109 = .ok (.if_icmp .ne 20, 3) := by decide +kernel
theorem dX10_earlyReferences_112 : decode cX10_earlyReferences 112 = .ok (.aload 7, 2) := by decide +kernel
theorem dX10_earlyReferences_114 : decode cX10_earlyReferences 114 = .ok (.getfield 109, 3) := by decide +kernel
theorem dX10_earlyReferences_117 : decode cX10_earlyReferences 117 = .ok (.ifCond .ne 12, 3) := by decide +kernel
theorem dX10_earlyReferences_120 : decode cX10_earlyReferences 120 = .ok (.iload 4, 2) := by decide +kernel
theorem dX10_earlyReferences_122 : decode cX10_earlyReferences 122 = .ok (.iconst 1, 1) := by decide +kernel
theorem dX10_earlyReferences_123 : decode cX10_earlyReferences 123 = .ok (.iload 5, 2) := by decide +kernel
theorem dX10_earlyReferences_125 : decode cX10_earlyReferences 125 = .ok (.ishl, 1) := by decide +kernel
theorem dX10_earlyReferences_126 : decode cX10_earlyReferences 126 = .ok (.ior, 1) := by decide +kernel
theorem dX10_earlyReferences_127 : decode cX10_earlyReferences 127 = .ok (.istore 4, 2) := by decide +kernel
theorem dX10_earlyReferences_129 : decode cX10_earlyReferences 129 = .ok (.iinc 5 1, 3) := by decide +kernel
theorem dX10_earlyReferences_132 : decode cX10_earlyReferences 132 = .ok (.goto (-110), 3) := by decide +kernel
theorem dX10_earlyReferences_135 : decode cX10_earlyReferences 135 = .ok (.iload 4, 2) := by decide +kernel
theorem dX10_earlyReferences_137 : decode cX10_earlyReferences 137 = .ok (.ireturn, 1) := by decide +kernel
theorem dX10_hasMust_0 : decode cX10_hasMust 0 = .ok (.aload_n 0, 1) := by decide +kernel
theorem dX10_hasMust_1 : decode cX10_hasMust 1 = .ok (.getfield 43, 3) := by decide +kernel
theorem dX10_hasMust_4 : decode cX10_hasMust 4 = .ok (.getfield 49, 3) := by decide +kernel
theorem dX10_hasMust_7 : decode cX10_hasMust 7 = .ok (.getfield 161, 3) := by decide +kernel
theorem dX10_hasMust_10 : decode cX10_hasMust 10 = .ok (.aload_n 1, 1) := by decide +kernel
theorem dX10_hasMust_11 : decode cX10_hasMust 11 = .ok (.getfield 165, 3) := by decide +kernel
theorem dX10_hasMust_14 : decode cX10_hasMust 14 = .ok (.aaload, 1) := by decide +kernel
theorem dX10_hasMust_15 : decode cX10_hasMust 15 = .ok (.astore_n 3, 1) := by decide +kernel
theorem dX10_hasMust_16 : decode cX10_hasMust 16 = .ok (.iconst 0, 1) := by decide +kernel
theorem dX10_hasMust_17 : decode cX10_hasMust 17 = .ok (.istore 4, 2) := by decide +kernel
theorem dX10_hasMust_19 : decode cX10_hasMust 19 = .ok (.iload 4, 2) := by decide +kernel
theorem dX10_hasMust_21 : decode cX10_hasMust 21 = .ok (.aload_n 3, 1) := by decide +kernel
theorem dX10_hasMust_22 : decode cX10_hasMust 22 = .ok (.getfield 167, 3) := by decide +kernel
theorem dX10_hasMust_25 : decode cX10_hasMust 25 = .ok (.if_icmp .ge 34, 3) := by decide +kernel
theorem dX10_hasMust_28 : decode cX10_hasMust 28 = .ok (.iload_n 2, 1) := by decide +kernel
theorem dX10_hasMust_29 : decode cX10_hasMust 29 = .ok (.iload 4, 2) := by decide +kernel
theorem dX10_hasMust_31 : decode cX10_hasMust 31 = .ok (.ishr, 1) := by decide +kernel
theorem dX10_hasMust_32 : decode cX10_hasMust 32 = .ok (.iconst 1, 1) := by decide +kernel
theorem dX10_hasMust_33 : decode cX10_hasMust 33 = .ok (.iand, 1) := by decide +kernel
theorem dX10_hasMust_34 : decode cX10_hasMust 34 = .ok (.ifCond .eq 19, 3) := by decide +kernel
theorem dX10_hasMust_37 : decode cX10_hasMust 37 = .ok (.aload_n 3, 1) := by decide +kernel
theorem dX10_hasMust_38 : decode cX10_hasMust 38 = .ok (.getfield 172, 3) := by decide +kernel
theorem dX10_hasMust_41 : decode cX10_hasMust 41 = .ok (.iload 4, 2) := by decide +kernel
theorem dX10_hasMust_43 : decode cX10_hasMust 43 = .ok (.aaload, 1) := by decide +kernel
theorem dX10_hasMust_44 : decode cX10_hasMust 44 = .ok (.iconst 2, 1) := by decide +kernel
theorem dX10_hasMust_45 : decode cX10_hasMust 45 = .ok (.invokevirtual 194, 3) := by decide +kernel
theorem dX10_hasMust_48 : decode cX10_hasMust 48 = .ok (.ifCond .eq 5, 3) := by decide +kernel
theorem dX10_hasMust_51 : decode cX10_hasMust 51 = .ok (.iconst 1, 1) := by decide +kernel
theorem dX10_hasMust_52 : decode cX10_hasMust 52 = .ok (.ireturn, 1) := by decide +kernel
theorem dX10_hasMust_53 : decode cX10_hasMust 53 = .ok (.iinc 4 1, 3) := by decide +kernel
theorem dX10_hasMust_56 : decode cX10_hasMust 56 = .ok (.goto (-37), 3) := by decide +kernel
theorem dX10_hasMust_59 : decode cX10_hasMust 59 = .ok (.iconst 0, 1) := by decide +kernel
theorem dX10_hasMust_60 : decode cX10_hasMust 60 = .ok (.ireturn, 1) := by decide +kernel
theorem dX10_insert_0 : decode cX10_insert 0 = .ok (.aload_n 0, 1) := by decide +kernel
theorem dX10_insert_1 : decode cX10_insert 1 = .ok (.getfield 43, 3) := by decide +kernel
theorem dX10_insert_4 : decode cX10_insert 4 = .ok (.aload_n 1, 1) := by decide +kernel
theorem dX10_insert_5 : decode cX10_insert 5 = .ok (.getfield 198, 3) := by decide +kernel
theorem dX10_insert_8 : decode cX10_insert 8 = .ok (.invokevirtual 201, 3) := by decide +kernel
theorem dX10_insert_11 : decode cX10_insert 11 = .ok (.ifCond .eq 12, 3) := by decide +kernel
theorem dX10_insert_14 : decode cX10_insert 14 = .ok (.aload_n 0, 1) := by decide +kernel
theorem dX10_insert_15 : decode cX10_insert 15 = .ok (.iconst 5, 1) := by decide +kernel
theorem dX10_insert_16 : decode cX10_insert 16 = .ok (.aload_n 1, 1) := by decide +kernel
theorem dX10_insert_17 : decode cX10_insert 17 = .ok (.iconst (-1), 1) := by decide +kernel
theorem dX10_insert_18 : decode cX10_insert 18 = .ok (.iconst (-1), 1) := by decide +kernel
theorem dX10_insert_19 : decode cX10_insert 19 = .ok (.invokevirtual 146, 3) := by decide +kernel
theorem dX10_insert_22 : decode cX10_insert 22 = .ok (.ireturn, 1) := by decide +kernel
theorem dX10_insert_23 : decode cX10_insert 23 = .ok (.aload_n 1, 1) := by decide +kernel
theorem dX10_insert_24 : decode cX10_insert 24 = .ok (.getfield 112, 3) := by decide +kernel
theorem dX10_insert_27 : decode cX10_insert 27 = .ok (.iconst (-1), 1) := by decide +kernel
theorem dX10_insert_28 : decode cX10_insert 28 = .ok (.ixor, 1) := by decide +kernel
theorem dX10_insert_29 : decode cX10_insert 29 = .ok (.istore_n 2, 1) := by decide +kernel
theorem dX10_insert_30 : decode cX10_insert 30 = .ok (.aload_n 0, 1) := by decide +kernel
theorem dX10_insert_31 : decode cX10_insert 31 = .ok (.aload_n 1, 1) := by decide +kernel
theorem dX10_insert_32 : decode cX10_insert 32 = .ok (.iload_n 2, 1) := by decide +kernel
theorem dX10_insert_33 : decode cX10_insert 33 = .ok (.invokevirtual 204, 3) := by decide +kernel
theorem dX10_insert_36 : decode cX10_insert 36 = .ok (.ifCond .ne 5, 3) := by decide +kernel
theorem dX10_insert_39 : decode cX10_insert 39 = .ok (.iconst 0, 1) := by decide +kernel
theorem dX10_insert_40 : decode cX10_insert 40 = .ok (.ireturn, 1) := by decide +kernel
theorem dX10_insert_41 : decode cX10_insert 41 = .ok (.aload_n 0, 1) := by decide +kernel
theorem dX10_insert_42 : decode cX10_insert 42 = .ok (.getfield 43, 3) := by decide +kernel
theorem dX10_insert_45 : decode cX10_insert 45 = .ok (.aload_n 1, 1) := by decide +kernel
theorem dX10_insert_46 : decode cX10_insert 46 = .ok (.getfield 198, 3) := by decide +kernel
theorem dX10_insert_49 : decode cX10_insert 49 = .ok (.aload_n 1, 1) := by decide +kernel
theorem dX10_insert_50 : decode cX10_insert 50 = .ok (.getfield 207, 3) := by decide +kernel
theorem dX10_insert_53 : decode cX10_insert 53 = .ok (.aload_n 1, 1) := by decide +kernel
theorem dX10_insert_54 : decode cX10_insert 54 = .ok (.getfield 165, 3) := by decide +kernel
theorem dX10_insert_57 : decode cX10_insert 57 = .ok (.invokevirtual 210, 3) := by decide +kernel
theorem dX10_insert_60 : decode cX10_insert 60 = .ok (.istore_n 3, 1) := by decide +kernel
theorem dX10_insert_61 : decode cX10_insert 61 = .ok (.iconst 0, 1) := by decide +kernel
theorem dX10_insert_62 : decode cX10_insert 62 = .ok (.istore 4, 2) := by decide +kernel
theorem dX10_insert_64 : decode cX10_insert 64 = .ok (.iload 4, 2) := by decide +kernel
theorem dX10_insert_66 : decode cX10_insert 66 = .ok (.bipush 16, 2) := by decide +kernel
theorem dX10_insert_68 : decode cX10_insert 68 = .ok (.if_icmp .ge 39, 3) := by decide +kernel
theorem dX10_insert_71 : decode cX10_insert 71 = .ok (.aload_n 0, 1) := by decide +kernel
theorem dX10_insert_72 : decode cX10_insert 72 = .ok (.getfield 43, 3) := by decide +kernel
theorem dX10_insert_75 : decode cX10_insert 75 = .ok (.iload_n 3, 1) := by decide +kernel
theorem dX10_insert_76 : decode cX10_insert 76 = .ok (.iload 4, 2) := by decide +kernel
theorem dX10_insert_78 : decode cX10_insert 78 = .ok (.iload_n 2, 1) := by decide +kernel
theorem dX10_insert_79 : decode cX10_insert 79 = .ok (.iload 4, 2) := by decide +kernel
theorem dX10_insert_81 : decode cX10_insert 81 = .ok (.ishr, 1) := by decide +kernel
theorem dX10_insert_82 : decode cX10_insert 82 = .ok (.iconst 1, 1) := by decide +kernel
theorem dX10_insert_83 : decode cX10_insert 83 = .ok (.iand, 1) := by decide +kernel
theorem dX10_insert_84 : decode cX10_insert 84 = .ok (.ifCond .eq 13, 3) := by decide +kernel
theorem dX10_insert_87 : decode cX10_insert 87 = .ok (.aload_n 1, 1) := by decide +kernel
theorem dX10_insert_88 : decode cX10_insert 88 = .ok (.getfield 181, 3) := by decide +kernel
theorem dX10_insert_91 : decode cX10_insert 91 = .ok (.iload 4, 2) := by decide +kernel
theorem dX10_insert_93 : decode cX10_insert 93 = .ok (.iaload, 1) := by decide +kernel
theorem dX10_insert_94 : decode cX10_insert 94 = .ok (.goto 4, 3) := by decide +kernel
theorem dX10_insert_97 : decode cX10_insert 97 = .ok (.iconst 0, 1) := by decide +kernel
theorem dX10_insert_98 : decode cX10_insert 98 = .ok (.invokevirtual 214, 3) := by decide +kernel
theorem dX10_insert_101 : decode cX10_insert 101 = .ok (.iinc 4 1, 3) := by decide +kernel
theorem dX10_insert_104 : decode cX10_insert 104 = .ok (.goto (-40), 3) := by decide +kernel
theorem dX10_insert_107 : decode cX10_insert 107 = .ok (.aload_n 1, 1) := by decide +kernel
theorem dX10_insert_108 : decode cX10_insert 108 = .ok (.iconst 1, 1) := by decide +kernel
theorem dX10_insert_109 : decode cX10_insert 109 = .ok (.putfield 109, 3) := by decide +kernel
theorem dX10_insert_112 : decode cX10_insert 112 = .ok (.aload_n 0, 1) := by decide +kernel
theorem dX10_insert_113 : decode cX10_insert 113 = .ok (.iconst 0, 1) := by decide +kernel
theorem dX10_insert_114 : decode cX10_insert 114 = .ok (.aload_n 1, 1) := by decide +kernel
theorem dX10_insert_115 : decode cX10_insert 115 = .ok (.iconst 0, 1) := by decide +kernel
theorem dX10_insert_116 : decode cX10_insert 116 = .ok (.invokevirtual 218, 3) := by decide +kernel
theorem dX10_insert_119 : decode cX10_insert 119 = .ok (.iconst 1, 1) := by decide +kernel
theorem dX10_insert_120 : decode cX10_insert 120 = .ok (.ireturn, 1) := by decide +kernel
theorem dX10_keepsRules_0 : decode cX10_keepsRules 0 = .ok (.iconst 0, 1) := by decide +kernel
theorem dX10_keepsRules_1 : decode cX10_keepsRules 1 = .ok (.istore_n 3, 1) := by decide +kernel
theorem dX10_keepsRules_2 : decode cX10_keepsRules 2 = .ok (.iload_n 3, 1) := by decide +kernel
theorem dX10_keepsRules_3 : decode cX10_keepsRules 3 = .ok (.bipush 16, 2) := by decide +kernel
theorem dX10_keepsRules_5 : decode cX10_keepsRules 5 = .ok (.if_icmp .ge 57, 3) := by decide +kernel
theorem dX10_keepsRules_8 : decode cX10_keepsRules 8 = .ok (.iload_n 2, 1) := by decide +kernel
theorem dX10_keepsRules_9 : decode cX10_keepsRules 9 = .ok (.iload_n 3, 1) := by decide +kernel
theorem dX10_keepsRules_10 : decode cX10_keepsRules 10 = .ok (.ishr, 1) := by decide +kernel
theorem dX10_keepsRules_11 : decode cX10_keepsRules 11 = .ok (.iconst 1, 1) := by decide +kernel
theorem dX10_keepsRules_12 : decode cX10_keepsRules 12 = .ok (.iand, 1) := by decide +kernel
theorem dX10_keepsRules_13 : decode cX10_keepsRules 13 = .ok (.ifCond .eq 43, 3) := by decide +kernel
theorem dX10_keepsRules_16 : decode cX10_keepsRules 16 = .ok (.aload_n 0, 1) := by decide +kernel
theorem dX10_keepsRules_17 : decode cX10_keepsRules 17 = .ok (.getfield 43, 3) := by decide +kernel
theorem dX10_keepsRules_20 : decode cX10_keepsRules 20 = .ok (.aload_n 1, 1) := by decide +kernel
theorem dX10_keepsRules_21 : decode cX10_keepsRules 21 = .ok (.getfield 165, 3) := by decide +kernel
theorem dX10_keepsRules_24 : decode cX10_keepsRules 24 = .ok (.aload_n 1, 1) := by decide +kernel
theorem dX10_keepsRules_25 : decode cX10_keepsRules 25 = .ok (.getfield 207, 3) := by decide +kernel
theorem dX10_keepsRules_28 : decode cX10_keepsRules 28 = .ok (.iload_n 3, 1) := by decide +kernel
theorem dX10_keepsRules_29 : decode cX10_keepsRules 29 = .ok (.aload_n 1, 1) := by decide +kernel
theorem dX10_keepsRules_30 : decode cX10_keepsRules 30 = .ok (.getfield 181, 3) := by decide +kernel
theorem dX10_keepsRules_33 : decode cX10_keepsRules 33 = .ok (.iload_n 3, 1) := by decide +kernel
theorem dX10_keepsRules_34 : decode cX10_keepsRules 34 = .ok (.iaload, 1) := by decide +kernel
theorem dX10_keepsRules_35 : decode cX10_keepsRules 35 = .ok (.invokevirtual 222, 3) := by decide +kernel
theorem dX10_keepsRules_38 : decode cX10_keepsRules 38 = .ok (.istore 4, 2) := by decide +kernel
theorem dX10_keepsRules_40 : decode cX10_keepsRules 40 = .ok (.iload 4, 2) := by decide +kernel
theorem dX10_keepsRules_42 : decode cX10_keepsRules 42 = .ok (.iconst (-1), 1) := by decide +kernel
theorem dX10_keepsRules_43 : decode cX10_keepsRules 43 = .ok (.if_icmp .eq 13, 3) := by decide +kernel
theorem dX10_keepsRules_46 : decode cX10_keepsRules 46 = .ok (.aload_n 0, 1) := by decide +kernel
theorem dX10_keepsRules_47 : decode cX10_keepsRules 47 = .ok (.iconst 1, 1) := by decide +kernel
theorem dX10_keepsRules_48 : decode cX10_keepsRules 48 = .ok (.aload_n 1, 1) := by decide +kernel
theorem dX10_keepsRules_49 : decode cX10_keepsRules 49 = .ok (.iload_n 3, 1) := by decide +kernel
theorem dX10_keepsRules_50 : decode cX10_keepsRules 50 = .ok (.iload 4, 2) := by decide +kernel
theorem dX10_keepsRules_52 : decode cX10_keepsRules 52 = .ok (.invokevirtual 146, 3) := by decide +kernel
theorem dX10_keepsRules_55 : decode cX10_keepsRules 55 = .ok (.ireturn, 1) := by decide +kernel
theorem dX10_keepsRules_56 : decode cX10_keepsRules 56 = .ok (.iinc 3 1, 3) := by decide +kernel
theorem dX10_keepsRules_59 : decode cX10_keepsRules 59 = .ok (.goto (-57), 3) := by decide +kernel
theorem dX10_keepsRules_62 : decode cX10_keepsRules 62 = .ok (.iconst 1, 1) := by decide +kernel
theorem dX10_keepsRules_63 : decode cX10_keepsRules 63 = .ok (.ireturn, 1) := by decide +kernel
theorem dX10_changeAll_0 : decode cX10_changeAll 0 = .ok (.iconst 0, 1) := by decide +kernel
theorem dX10_changeAll_1 : decode cX10_changeAll 1 = .ok (.istore_n 1, 1) := by decide +kernel
theorem dX10_changeAll_2 : decode cX10_changeAll 2 = .ok (.iload_n 1, 1) := by decide +kernel
theorem dX10_changeAll_3 : decode cX10_changeAll 3 = .ok (.aload_n 0, 1) := by decide +kernel
theorem dX10_changeAll_4 : decode cX10_changeAll 4 = .ok (.getfield 100, 3) := by decide +kernel
theorem dX10_changeAll_7 : decode cX10_changeAll 7 = .ok (.if_icmp .ge 49, 3) := by decide +kernel
theorem dX10_changeAll_10 : decode cX10_changeAll 10 = .ok (.aload_n 0, 1) := by decide +kernel
theorem dX10_changeAll_11 : decode cX10_changeAll 11 = .ok (.getfield 11, 3) := by decide +kernel
theorem dX10_changeAll_14 : decode cX10_changeAll 14 = .ok (.iload_n 1, 1) := by decide +kernel
theorem dX10_changeAll_15 : decode cX10_changeAll 15 = .ok (.aaload, 1) := by decide +kernel
theorem dX10_changeAll_16 : decode cX10_changeAll 16 = .ok (.astore_n 2, 1) := by decide +kernel
theorem dX10_changeAll_17 : decode cX10_changeAll 17 = .ok (.aload_n 2, 1) := by decide +kernel
theorem dX10_changeAll_18 : decode cX10_changeAll 18 = .ok (.getfield 112, 3) := by decide +kernel
theorem dX10_changeAll_21 : decode cX10_changeAll 21 = .ok (.istore_n 3, 1) := by decide +kernel
theorem dX10_changeAll_22 : decode cX10_changeAll 22 = .ok (.aload_n 2, 1) := by decide +kernel
theorem dX10_changeAll_23 : decode cX10_changeAll 23 = .ok (.getfield 118, 3) := by decide +kernel
theorem dX10_changeAll_26 : decode cX10_changeAll 26 = .ok (.iconst 1, 1) := by decide +kernel
theorem dX10_changeAll_27 : decode cX10_changeAll 27 = .ok (.if_icmp .ne 8, 3) := by decide +kernel
theorem dX10_changeAll_30 : decode cX10_changeAll 30 = .ok (.aload_n 2, 1) := by decide +kernel
theorem dX10_changeAll_31 : decode cX10_changeAll 31 = .ok (.invokevirtual 125, 3) := by decide +kernel
theorem dX10_changeAll_34 : decode cX10_changeAll 34 = .ok (.istore_n 3, 1) := by decide +kernel
theorem dX10_changeAll_35 : decode cX10_changeAll 35 = .ok (.iload_n 3, 1) := by decide +kernel
theorem dX10_changeAll_36 : decode cX10_changeAll 36 = .ok (.ifCond .eq 14, 3) := by decide +kernel
theorem dX10_changeAll_39 : decode cX10_changeAll 39 = .ok (.aload_n 0, 1) := by decide +kernel
theorem dX10_changeAll_40 : decode cX10_changeAll 40 = .ok (.aload_n 2, 1) := by decide +kernel
theorem dX10_changeAll_41 : decode cX10_changeAll 41 = .ok (.iload_n 3, 1) := by decide +kernel
theorem dX10_changeAll_42 : decode cX10_changeAll 42 = .ok (.invokevirtual 226, 3) := by decide +kernel
theorem dX10_changeAll_45 : decode cX10_changeAll 45 = .ok (.ifCond .ne 5, 3) := by decide +kernel
theorem dX10_changeAll_48 : decode cX10_changeAll 48 = .ok (.iconst 0, 1) := by decide +kernel
theorem dX10_changeAll_49 : decode cX10_changeAll 49 = .ok (.ireturn, 1) := by decide +kernel
theorem dX10_changeAll_50 : decode cX10_changeAll 50 = .ok (.iinc 1 1, 3) := by decide +kernel
theorem dX10_changeAll_53 : decode cX10_changeAll 53 = .ok (.goto (-51), 3) := by decide +kernel
theorem dX10_changeAll_56 : decode cX10_changeAll 56 = .ok (.iconst 1, 1) := by decide +kernel
theorem dX10_changeAll_57 : decode cX10_changeAll 57 = .ok (.ireturn, 1) := by decide +kernel
theorem dX10_change_0 : decode cX10_change 0 = .ok (.aload_n 0, 1) := by decide +kernel
theorem dX10_change_1 : decode cX10_change 1 = .ok (.getfield 43, 3) := by decide +kernel
theorem dX10_change_4 : decode cX10_change 4 = .ok (.aload_n 1, 1) := by decide +kernel
theorem dX10_change_5 : decode cX10_change 5 = .ok (.getfield 198, 3) := by decide +kernel
theorem dX10_change_8 : decode cX10_change 8 = .ok (.aload_n 1, 1) := by decide +kernel
theorem dX10_change_9 : decode cX10_change 9 = .ok (.getfield 207, 3) := by decide +kernel
theorem dX10_change_12 : decode cX10_change 12 = .ok (.invokevirtual 229, 3) := by decide +kernel
theorem dX10_change_15 : decode cX10_change 15 = .ok (.istore_n 3, 1) := by decide +kernel
theorem dX10_change_16 : decode cX10_change 16 = .ok (.iload_n 3, 1) := by decide +kernel
theorem dX10_change_17 : decode cX10_change 17 = .ok (.iconst (-1), 1) := by decide +kernel
theorem dX10_change_18 : decode cX10_change 18 = .ok (.if_icmp .eq 27, 3) := by decide +kernel
theorem dX10_change_21 : decode cX10_change 21 = .ok (.aload_n 1, 1) := by decide +kernel
theorem dX10_change_22 : decode cX10_change 22 = .ok (.getfield 118, 3) := by decide +kernel
theorem dX10_change_25 : decode cX10_change 25 = .ok (.iconst 1, 1) := by decide +kernel
theorem dX10_change_26 : decode cX10_change 26 = .ok (.if_icmp .ne 28, 3) := by decide +kernel
theorem dX10_change_29 : decode cX10_change 29 = .ok (.aload_n 0, 1) := by decide +kernel
theorem dX10_change_30 : decode cX10_change 30 = .ok (.getfield 43, 3) := by decide +kernel
theorem dX10_change_33 : decode cX10_change 33 = .ok (.getfield 233, 3) := by decide +kernel
theorem dX10_change_36 : decode cX10_change 36 = .ok (.iload_n 3, 1) := by decide +kernel
theorem dX10_change_37 : decode cX10_change 37 = .ok (.iaload, 1) := by decide +kernel
theorem dX10_change_38 : decode cX10_change 38 = .ok (.aload_n 1, 1) := by decide +kernel
theorem dX10_change_39 : decode cX10_change 39 = .ok (.getfield 236, 3) := by decide +kernel
theorem dX10_change_42 : decode cX10_change 42 = .ok (.if_icmp .eq 12, 3) := by decide +kernel
theorem dX10_change_45 : decode cX10_change 45 = .ok (.aload_n 0, 1) := by decide +kernel
theorem dX10_change_46 : decode cX10_change 46 = .ok (.iconst 2, 1) := by decide +kernel
theorem dX10_change_47 : decode cX10_change 47 = .ok (.aload_n 1, 1) := by decide +kernel
theorem dX10_change_48 : decode cX10_change 48 = .ok (.iconst (-1), 1) := by decide +kernel
theorem dX10_change_49 : decode cX10_change 49 = .ok (.iconst (-1), 1) := by decide +kernel
theorem dX10_change_50 : decode cX10_change 50 = .ok (.invokevirtual 146, 3) := by decide +kernel
theorem dX10_change_53 : decode cX10_change 53 = .ok (.ireturn, 1) := by decide +kernel
theorem dX10_change_54 : decode cX10_change 54 = .ok (.aload_n 0, 1) := by decide +kernel
theorem dX10_change_55 : decode cX10_change 55 = .ok (.aload_n 1, 1) := by decide +kernel
theorem dX10_change_56 : decode cX10_change 56 = .ok (.iload_n 2, 1) := by decide +kernel
theorem dX10_change_57 : decode cX10_change 57 = .ok (.invokevirtual 204, 3) := by decide +kernel
theorem dX10_change_60 : decode cX10_change 60 = .ok (.ifCond .ne 5, 3) := by decide +kernel
theorem dX10_change_63 : decode cX10_change 63 = .ok (.iconst 0, 1) := by decide +kernel
theorem dX10_change_64 : decode cX10_change 64 = .ok (.ireturn, 1) := by decide +kernel
theorem dX10_change_65 : decode cX10_change 65 = .ok (.iconst 0, 1) := by decide +kernel
theorem dX10_change_66 : decode cX10_change 66 = .ok (.istore 4, 2) := by decide +kernel
theorem dX10_change_68 : decode cX10_change 68 = .ok (.iload 4, 2) := by decide +kernel
theorem dX10_change_70 : decode cX10_change 70 = .ok (.bipush 16, 2) := by decide +kernel
theorem dX10_change_72 : decode cX10_change 72 = .ok (.if_icmp .ge 35, 3) := by decide +kernel
theorem dX10_change_75 : decode cX10_change 75 = .ok (.iload_n 2, 1) := by decide +kernel
theorem dX10_change_76 : decode cX10_change 76 = .ok (.iload 4, 2) := by decide +kernel
theorem dX10_change_78 : decode cX10_change 78 = .ok (.ishr, 1) := by decide +kernel
theorem dX10_change_79 : decode cX10_change 79 = .ok (.iconst 1, 1) := by decide +kernel
theorem dX10_change_80 : decode cX10_change 80 = .ok (.iand, 1) := by decide +kernel
theorem dX10_change_81 : decode cX10_change 81 = .ok (.ifCond .eq 20, 3) := by decide +kernel
theorem dX10_change_84 : decode cX10_change 84 = .ok (.aload_n 0, 1) := by decide +kernel
theorem dX10_change_85 : decode cX10_change 85 = .ok (.getfield 43, 3) := by decide +kernel
theorem dX10_change_88 : decode cX10_change 88 = .ok (.iload_n 3, 1) := by decide +kernel
theorem dX10_change_89 : decode cX10_change 89 = .ok (.iload 4, 2) := by decide +kernel
theorem dX10_change_91 : decode cX10_change 91 = .ok (.aload_n 1, 1) := by decide +kernel
theorem dX10_change_92 : decode cX10_change 92 = .ok (.getfield 181, 3) := by decide +kernel
theorem dX10_change_95 : decode cX10_change 95 = .ok (.iload 4, 2) := by decide +kernel
theorem dX10_change_97 : decode cX10_change 97 = .ok (.iaload, 1) := by decide +kernel
theorem dX10_change_98 : decode cX10_change 98 = .ok (.invokevirtual 214, 3) := by decide +kernel
theorem dX10_change_101 : decode cX10_change 101 = .ok (.iinc 4 1, 3) := by decide +kernel
theorem dX10_change_104 : decode cX10_change 104 = .ok (.goto (-36), 3) := by decide +kernel
theorem dX10_change_107 : decode cX10_change 107 = .ok (.aload_n 0, 1) := by decide +kernel
theorem dX10_change_108 : decode cX10_change 108 = .ok (.getfield 43, 3) := by decide +kernel
theorem dX10_change_111 : decode cX10_change 111 = .ok (.getfield 233, 3) := by decide +kernel
theorem dX10_change_114 : decode cX10_change 114 = .ok (.iload_n 3, 1) := by decide +kernel
theorem dX10_change_115 : decode cX10_change 115 = .ok (.dup2, 1) := by decide +kernel
theorem dX10_change_116 : decode cX10_change 116 = .ok (.iaload, 1) := by decide +kernel
theorem dX10_change_117 : decode cX10_change 117 = .ok (.iconst 1, 1) := by decide +kernel
theorem dX10_change_118 : decode cX10_change 118 = .ok (.iadd, 1) := by decide +kernel
theorem dX10_change_119 : decode cX10_change 119 = .ok (.iastore, 1) := by decide +kernel
theorem dX10_change_120 : decode cX10_change 120 = .ok (.aload_n 1, 1) := by decide +kernel
theorem dX10_change_121 : decode cX10_change 121 = .ok (.iconst 1, 1) := by decide +kernel
theorem dX10_change_122 : decode cX10_change 122 = .ok (.putfield 109, 3) := by decide +kernel
theorem dX10_change_125 : decode cX10_change 125 = .ok (.aload_n 0, 1) := by decide +kernel
theorem dX10_change_126 : decode cX10_change 126 = .ok (.iconst 1, 1) := by decide +kernel
theorem dX10_change_127 : decode cX10_change 127 = .ok (.aload_n 1, 1) := by decide +kernel
theorem dX10_change_128 : decode cX10_change 128 = .ok (.iload_n 2, 1) := by decide +kernel
theorem dX10_change_129 : decode cX10_change 129 = .ok (.invokestatic 238, 3) := by decide +kernel
theorem dX10_change_132 : decode cX10_change 132 = .ok (.invokevirtual 218, 3) := by decide +kernel
theorem dX10_change_135 : decode cX10_change 135 = .ok (.iconst 1, 1) := by decide +kernel
theorem dX10_change_136 : decode cX10_change 136 = .ok (.ireturn, 1) := by decide +kernel
theorem dX10_deleteAll_0 : decode cX10_deleteAll 0 = .ok (.aload_n 0, 1) := by decide +kernel
theorem dX10_deleteAll_1 : decode cX10_deleteAll 1 = .ok (.iconst 3, 1) := by decide +kernel
theorem dX10_deleteAll_2 : decode cX10_deleteAll 2 = .ok (.invokevirtual 134, 3) := by decide +kernel
theorem dX10_deleteAll_5 : decode cX10_deleteAll 5 = .ok (.istore_n 1, 1) := by decide +kernel
theorem dX10_deleteAll_6 : decode cX10_deleteAll 6 = .ok (.iconst 0, 1) := by decide +kernel
theorem dX10_deleteAll_7 : decode cX10_deleteAll 7 = .ok (.istore_n 2, 1) := by decide +kernel
theorem dX10_deleteAll_8 : decode cX10_deleteAll 8 = .ok (.iload_n 2, 1) := by decide +kernel
theorem dX10_deleteAll_9 : decode cX10_deleteAll 9 = .ok (.iload_n 1, 1) := by decide +kernel
theorem dX10_deleteAll_10 : decode cX10_deleteAll 10 = .ok (.if_icmp .ge 28, 3) := by decide +kernel
theorem dX10_deleteAll_13 : decode cX10_deleteAll 13 = .ok (.aload_n 0, 1) := by decide +kernel
theorem dX10_deleteAll_14 : decode cX10_deleteAll 14 = .ok (.invokevirtual 243, 3) := by decide +kernel
theorem dX10_deleteAll_17 : decode cX10_deleteAll 17 = .ok (.astore_n 3, 1) := by decide +kernel
theorem dX10_deleteAll_18 : decode cX10_deleteAll 18 = .ok (.aload_n 3, 1) := by decide +kernel
theorem dX10_deleteAll_19 : decode cX10_deleteAll 19 = .ok (.ifnull 13, 3) := by decide +kernel
theorem dX10_deleteAll_22 : decode cX10_deleteAll 22 = .ok (.aload_n 0, 1) := by decide +kernel
theorem dX10_deleteAll_23 : decode cX10_deleteAll 23 = .ok (.aload_n 3, 1) := by decide +kernel
theorem dX10_deleteAll_24 : decode cX10_deleteAll 24 = .ok (.invokevirtual 247, 3) := by decide +kernel
theorem dX10_deleteAll_27 : decode cX10_deleteAll 27 = .ok (.ifCond .ne 5, 3) := by decide +kernel
theorem dX10_deleteAll_30 : decode cX10_deleteAll 30 = .ok (.iconst 0, 1) := by decide +kernel
theorem dX10_deleteAll_31 : decode cX10_deleteAll 31 = .ok (.ireturn, 1) := by decide +kernel
theorem dX10_deleteAll_32 : decode cX10_deleteAll 32 = .ok (.iinc 2 1, 3) := by decide +kernel
theorem dX10_deleteAll_35 : decode cX10_deleteAll 35 = .ok (.goto (-27), 3) := by decide +kernel
theorem dX10_deleteAll_38 : decode cX10_deleteAll 38 = .ok (.iconst 1, 1) := by decide +kernel
theorem dX10_deleteAll_39 : decode cX10_deleteAll 39 = .ok (.ireturn, 1) := by decide +kernel
theorem dX10_nextDelete_0 : decode cX10_nextDelete 0 = .ok (.iconst 0, 1) := by decide +kernel
theorem dX10_nextDelete_1 : decode cX10_nextDelete 1 = .ok (.istore_n 1, 1) := by decide +kernel
theorem dX10_nextDelete_2 : decode cX10_nextDelete 2 = .ok (.iload_n 1, 1) := by decide +kernel
theorem dX10_nextDelete_3 : decode cX10_nextDelete 3 = .ok (.aload_n 0, 1) := by decide +kernel
theorem dX10_nextDelete_4 : decode cX10_nextDelete 4 = .ok (.getfield 100, 3) := by decide +kernel
theorem dX10_nextDelete_7 : decode cX10_nextDelete 7 = .ok (.if_icmp .ge 52, 3) := by decide +kernel
theorem dX10_nextDelete_10 : decode cX10_nextDelete 10 = .ok (.aload_n 0, 1) := by decide +kernel
theorem dX10_nextDelete_11 : decode cX10_nextDelete 11 = .ok (.getfield 11, 3) := by decide +kernel
theorem dX10_nextDelete_14 : decode cX10_nextDelete 14 = .ok (.iload_n 1, 1) := by decide +kernel
theorem dX10_nextDelete_15 : decode cX10_nextDelete 15 = .ok (.aaload, 1) := by decide +kernel
theorem dX10_nextDelete_16 : decode cX10_nextDelete 16 = .ok (.astore_n 2, 1) := by decide +kernel
theorem dX10_nextDelete_17 : decode cX10_nextDelete 17 = .ok (.aload_n 2, 1) := by decide +kernel
theorem dX10_nextDelete_18 : decode cX10_nextDelete 18 = .ok (.getfield 118, 3) := by decide +kernel
theorem dX10_nextDelete_21 : decode cX10_nextDelete 21 = .ok (.iconst 3, 1) := by decide +kernel
theorem dX10_nextDelete_22 : decode cX10_nextDelete 22 = .ok (.if_icmp .ne 31, 3) := by decide +kernel
theorem dX10_nextDelete_25 : decode cX10_nextDelete 25 = .ok (.aload_n 2, 1) := by decide +kernel
theorem dX10_nextDelete_26 : decode cX10_nextDelete 26 = .ok (.getfield 109, 3) := by decide +kernel
theorem dX10_nextDelete_29 : decode cX10_nextDelete 29 = .ok (.ifCond .ne 24, 3) := by decide +kernel
theorem dX10_nextDelete_32 : decode cX10_nextDelete 32 = .ok (.aload_n 0, 1) := by decide +kernel
theorem dX10_nextDelete_33 : decode cX10_nextDelete 33 = .ok (.getfield 43, 3) := by decide +kernel
theorem dX10_nextDelete_36 : decode cX10_nextDelete 36 = .ok (.aload_n 2, 1) := by decide +kernel
theorem dX10_nextDelete_37 : decode cX10_nextDelete 37 = .ok (.getfield 198, 3) := by decide +kernel
theorem dX10_nextDelete_40 : decode cX10_nextDelete 40 = .ok (.aload_n 2, 1) := by decide +kernel
theorem dX10_nextDelete_41 : decode cX10_nextDelete 41 = .ok (.getfield 207, 3) := by decide +kernel
theorem dX10_nextDelete_44 : decode cX10_nextDelete 44 = .ok (.invokevirtual 250, 3) := by decide +kernel
theorem dX10_nextDelete_47 : decode cX10_nextDelete 47 = .ok (.iconst (-1), 1) := by decide +kernel
theorem dX10_nextDelete_48 : decode cX10_nextDelete 48 = .ok (.if_icmp .ne 5, 3) := by decide +kernel
theorem dX10_nextDelete_51 : decode cX10_nextDelete 51 = .ok (.aload_n 2, 1) := by decide +kernel
theorem dX10_nextDelete_52 : decode cX10_nextDelete 52 = .ok (.areturn, 1) := by decide +kernel
theorem dX10_nextDelete_53 : decode cX10_nextDelete 53 = .ok (.iinc 1 1, 3) := by decide +kernel
theorem dX10_nextDelete_56 : decode cX10_nextDelete 56 = .ok (.goto (-54), 3) := by decide +kernel
theorem dX10_nextDelete_59 : decode cX10_nextDelete 59 = .ok (.aload_n 0, 1) := by decide +kernel
theorem dX10_nextDelete_60 : decode cX10_nextDelete 60 = .ok (.iconst 3, 1) := by decide +kernel
theorem dX10_nextDelete_61 : decode cX10_nextDelete 61 = .ok (.invokevirtual 142, 3) := by decide +kernel
theorem dX10_nextDelete_64 : decode cX10_nextDelete 64 = .ok (.areturn, 1) := by decide +kernel
theorem dX10_delete_0 : decode cX10_delete 0 = .ok (.aload_n 0, 1) := by decide +kernel
theorem dX10_delete_1 : decode cX10_delete 1 = .ok (.getfield 43, 3) := by decide +kernel
theorem dX10_delete_4 : decode cX10_delete 4 = .ok (.aload_n 1, 1) := by decide +kernel
theorem dX10_delete_5 : decode cX10_delete 5 = .ok (.getfield 198, 3) := by decide +kernel
theorem dX10_delete_8 : decode cX10_delete 8 = .ok (.aload_n 1, 1) := by decide +kernel
theorem dX10_delete_9 : decode cX10_delete 9 = .ok (.getfield 207, 3) := by decide +kernel
theorem dX10_delete_12 : decode cX10_delete 12 = .ok (.invokevirtual 229, 3) := by decide +kernel
theorem dX10_delete_15 : decode cX10_delete 15 = .ok (.istore_n 2, 1) := by decide +kernel
theorem dX10_delete_16 : decode cX10_delete 16 = .ok (.iload_n 2, 1) := by decide +kernel
theorem dX10_delete_17 : decode cX10_delete 17 = .ok (.iconst (-1), 1) := by decide +kernel
theorem dX10_delete_18 : decode cX10_delete 18 = .ok (.if_icmp .eq 19, 3) := by decide +kernel
theorem dX10_delete_21 : decode cX10_delete 21 = .ok (.aload_n 0, 1) := by decide +kernel
theorem dX10_delete_22 : decode cX10_delete 22 = .ok (.getfield 43, 3) := by decide +kernel
theorem dX10_delete_25 : decode cX10_delete 25 = .ok (.getfield 233, 3) := by decide +kernel
theorem dX10_delete_28 : decode cX10_delete 28 = .ok (.iload_n 2, 1) := by decide +kernel
theorem dX10_delete_29 : decode cX10_delete 29 = .ok (.iaload, 1) := by decide +kernel
theorem dX10_delete_30 : decode cX10_delete 30 = .ok (.aload_n 1, 1) := by decide +kernel
theorem dX10_delete_31 : decode cX10_delete 31 = .ok (.getfield 236, 3) := by decide +kernel
theorem dX10_delete_34 : decode cX10_delete 34 = .ok (.if_icmp .eq 12, 3) := by decide +kernel
theorem dX10_delete_37 : decode cX10_delete 37 = .ok (.aload_n 0, 1) := by decide +kernel
theorem dX10_delete_38 : decode cX10_delete 38 = .ok (.iconst 2, 1) := by decide +kernel
theorem dX10_delete_39 : decode cX10_delete 39 = .ok (.aload_n 1, 1) := by decide +kernel
theorem dX10_delete_40 : decode cX10_delete 40 = .ok (.iconst (-1), 1) := by decide +kernel
theorem dX10_delete_41 : decode cX10_delete 41 = .ok (.iconst (-1), 1) := by decide +kernel
theorem dX10_delete_42 : decode cX10_delete 42 = .ok (.invokevirtual 146, 3) := by decide +kernel
theorem dX10_delete_45 : decode cX10_delete 45 = .ok (.ireturn, 1) := by decide +kernel
theorem dX10_delete_46 : decode cX10_delete 46 = .ok (.aload_n 0, 1) := by decide +kernel
theorem dX10_delete_47 : decode cX10_delete 47 = .ok (.getfield 43, 3) := by decide +kernel
theorem dX10_delete_50 : decode cX10_delete 50 = .ok (.aload_n 1, 1) := by decide +kernel
theorem dX10_delete_51 : decode cX10_delete 51 = .ok (.getfield 198, 3) := by decide +kernel
theorem dX10_delete_54 : decode cX10_delete 54 = .ok (.aload_n 1, 1) := by decide +kernel
theorem dX10_delete_55 : decode cX10_delete 55 = .ok (.getfield 207, 3) := by decide +kernel
theorem dX10_delete_58 : decode cX10_delete 58 = .ok (.invokevirtual 250, 3) := by decide +kernel
theorem dX10_delete_61 : decode cX10_delete 61 = .ok (.istore_n 3, 1) := by decide +kernel
theorem dX10_delete_62 : decode cX10_delete 62 = .ok (.iload_n 3, 1) := by decide +kernel
theorem dX10_delete_63 : decode cX10_delete 63 = .ok (.iconst (-1), 1) := by decide +kernel
theorem dX10_delete_64 : decode cX10_delete 64 = .ok (.if_icmp .eq 12, 3) := by decide +kernel
theorem dX10_delete_67 : decode cX10_delete 67 = .ok (.aload_n 0, 1) := by decide +kernel
theorem dX10_delete_68 : decode cX10_delete 68 = .ok (.iconst 1, 1) := by decide +kernel
theorem dX10_delete_69 : decode cX10_delete 69 = .ok (.aload_n 1, 1) := by decide +kernel
theorem dX10_delete_70 : decode cX10_delete 70 = .ok (.iload_n 3, 1) := by decide +kernel
theorem dX10_delete_71 : decode cX10_delete 71 = .ok (.iconst 2, 1) := by decide +kernel
theorem dX10_delete_72 : decode cX10_delete 72 = .ok (.invokevirtual 146, 3) := by decide +kernel
theorem dX10_delete_75 : decode cX10_delete 75 = .ok (.ireturn, 1) := by decide +kernel
theorem dX10_delete_76 : decode cX10_delete 76 = .ok (.aload_n 0, 1) := by decide +kernel
theorem dX10_delete_77 : decode cX10_delete 77 = .ok (.getfield 43, 3) := by decide +kernel
theorem dX10_delete_80 : decode cX10_delete 80 = .ok (.aload_n 1, 1) := by decide +kernel
theorem dX10_delete_81 : decode cX10_delete 81 = .ok (.getfield 198, 3) := by decide +kernel
theorem dX10_delete_84 : decode cX10_delete 84 = .ok (.iload_n 2, 1) := by decide +kernel
theorem dX10_delete_85 : decode cX10_delete 85 = .ok (.invokevirtual 253, 3) := by decide +kernel
theorem dX10_delete_88 : decode cX10_delete 88 = .ok (.aload_n 1, 1) := by decide +kernel
theorem dX10_delete_89 : decode cX10_delete 89 = .ok (.iconst 1, 1) := by decide +kernel
theorem dX10_delete_90 : decode cX10_delete 90 = .ok (.putfield 109, 3) := by decide +kernel
theorem dX10_delete_93 : decode cX10_delete 93 = .ok (.aload_n 0, 1) := by decide +kernel
theorem dX10_delete_94 : decode cX10_delete 94 = .ok (.iconst 2, 1) := by decide +kernel
theorem dX10_delete_95 : decode cX10_delete 95 = .ok (.aload_n 1, 1) := by decide +kernel
theorem dX10_delete_96 : decode cX10_delete 96 = .ok (.iconst 0, 1) := by decide +kernel
theorem dX10_delete_97 : decode cX10_delete 97 = .ok (.invokevirtual 218, 3) := by decide +kernel
theorem dX10_delete_100 : decode cX10_delete 100 = .ok (.iconst 1, 1) := by decide +kernel
theorem dX10_delete_101 : decode cX10_delete 101 = .ok (.ireturn, 1) := by decide +kernel
theorem dX10_settle_0 : decode cX10_settle 0 = .ok (.iconst 0, 1) := by decide +kernel
theorem dX10_settle_1 : decode cX10_settle 1 = .ok (.istore_n 1, 1) := by decide +kernel
theorem dX10_settle_2 : decode cX10_settle 2 = .ok (.iload_n 1, 1) := by decide +kernel
theorem dX10_settle_3 : decode cX10_settle 3 = .ok (.aload_n 0, 1) := by decide +kernel
theorem dX10_settle_4 : decode cX10_settle 4 = .ok (.getfield 100, 3) := by decide +kernel
theorem dX10_settle_7 : decode cX10_settle 7 = .ok (.if_icmp .ge 80, 3) := by decide +kernel
theorem dX10_settle_10 : decode cX10_settle 10 = .ok (.aload_n 0, 1) := by decide +kernel
theorem dX10_settle_11 : decode cX10_settle 11 = .ok (.getfield 11, 3) := by decide +kernel
theorem dX10_settle_14 : decode cX10_settle 14 = .ok (.iload_n 1, 1) := by decide +kernel
theorem dX10_settle_15 : decode cX10_settle 15 = .ok (.aaload, 1) := by decide +kernel
theorem dX10_settle_16 : decode cX10_settle 16 = .ok (.astore_n 2, 1) := by decide +kernel
theorem dX10_settle_17 : decode cX10_settle 17 = .ok (.aload_n 2, 1) := by decide +kernel
theorem dX10_settle_18 : decode cX10_settle 18 = .ok (.getfield 118, 3) := by decide +kernel
theorem dX10_settle_21 : decode cX10_settle 21 = .ok (.iconst 3, 1) := by decide +kernel
theorem dX10_settle_22 : decode cX10_settle 22 = .ok (.if_icmp .ne 11, 3) := by decide +kernel
theorem dX10_settle_25 : decode cX10_settle 25 = .ok (.aload_n 2, 1) := by decide +kernel
theorem dX10_settle_26 : decode cX10_settle 26 = .ok (.iconst 4, 1) := by decide +kernel
theorem dX10_settle_27 : decode cX10_settle 27 = .ok (.putfield 118, 3) := by decide +kernel
theorem dX10_settle_30 : decode cX10_settle 30 = .ok (.goto 51, 3) := by decide +kernel
theorem dX10_settle_33 : decode cX10_settle 33 = .ok (.aload_n 2, 1) := by decide +kernel
theorem dX10_settle_34 : decode cX10_settle 34 = .ok (.getfield 109, 3) := by decide +kernel
theorem dX10_settle_37 : decode cX10_settle 37 = .ok (.ifCond .eq 44, 3) := by decide +kernel
theorem dX10_settle_40 : decode cX10_settle 40 = .ok (.aload_n 0, 1) := by decide +kernel
theorem dX10_settle_41 : decode cX10_settle 41 = .ok (.getfield 43, 3) := by decide +kernel
theorem dX10_settle_44 : decode cX10_settle 44 = .ok (.aload_n 2, 1) := by decide +kernel
theorem dX10_settle_45 : decode cX10_settle 45 = .ok (.getfield 198, 3) := by decide +kernel
theorem dX10_settle_48 : decode cX10_settle 48 = .ok (.aload_n 2, 1) := by decide +kernel
theorem dX10_settle_49 : decode cX10_settle 49 = .ok (.getfield 207, 3) := by decide +kernel
theorem dX10_settle_52 : decode cX10_settle 52 = .ok (.invokevirtual 229, 3) := by decide +kernel
theorem dX10_settle_55 : decode cX10_settle 55 = .ok (.istore_n 3, 1) := by decide +kernel
theorem dX10_settle_56 : decode cX10_settle 56 = .ok (.aload_n 2, 1) := by decide +kernel
theorem dX10_settle_57 : decode cX10_settle 57 = .ok (.iload_n 3, 1) := by decide +kernel
theorem dX10_settle_58 : decode cX10_settle 58 = .ok (.iconst (-1), 1) := by decide +kernel
theorem dX10_settle_59 : decode cX10_settle 59 = .ok (.if_icmp .ne 10, 3) := by decide +kernel
theorem dX10_settle_62 : decode cX10_settle 62 = .ok (.aload_n 2, 1) := by decide +kernel
theorem dX10_settle_63 : decode cX10_settle 63 = .ok (.getfield 236, 3) := by decide +kernel
theorem dX10_settle_66 : decode cX10_settle 66 = .ok (.goto 12, 3) := by decide +kernel
theorem dX10_settle_69 : decode cX10_settle 69 = .ok (.aload_n 0, 1) := by decide +kernel
theorem dX10_settle_70 : decode cX10_settle 70 = .ok (.getfield 43, 3) := by decide +kernel
theorem dX10_settle_73 : decode cX10_settle 73 = .ok (.getfield 233, 3) := by decide +kernel
theorem dX10_settle_76 : decode cX10_settle 76 = .ok (.iload_n 3, 1) := by decide +kernel
theorem dX10_settle_77 : decode cX10_settle 77 = .ok (.iaload, 1) := by decide +kernel
theorem dX10_settle_78 : decode cX10_settle 78 = .ok (.invokevirtual 257, 3) := by decide +kernel
theorem dX10_settle_81 : decode cX10_settle 81 = .ok (.iinc 1 1, 3) := by decide +kernel
theorem dX10_settle_84 : decode cX10_settle 84 = .ok (.goto (-82), 3) := by decide +kernel
theorem dX10_settle_87 : decode cX10_settle 87 = .ok (.return_, 1) := by decide +kernel
theorem dX10_noteWrite_0 : decode cX10_noteWrite 0 = .ok (.aload_n 0, 1) := by decide +kernel
theorem dX10_noteWrite_1 : decode cX10_noteWrite 1 = .ok (.getfield 59, 3) := by decide +kernel
theorem dX10_noteWrite_4 : decode cX10_noteWrite 4 = .ok (.aload_n 0, 1) := by decide +kernel
theorem dX10_noteWrite_5 : decode cX10_noteWrite 5 = .ok (.getfield 30, 3) := by decide +kernel
theorem dX10_noteWrite_8 : decode cX10_noteWrite 8 = .ok (.arraylength, 1) := by decide +kernel
theorem dX10_noteWrite_9 : decode cX10_noteWrite 9 = .ok (.if_icmp .ge 59, 3) := by decide +kernel
theorem dX10_noteWrite_12 : decode cX10_noteWrite 12 = .ok (.aload_n 0, 1) := by decide +kernel
theorem dX10_noteWrite_13 : decode cX10_noteWrite 13 = .ok (.getfield 30, 3) := by decide +kernel
theorem dX10_noteWrite_16 : decode cX10_noteWrite 16 = .ok (.aload_n 0, 1) := by decide +kernel
theorem dX10_noteWrite_17 : decode cX10_noteWrite 17 = .ok (.getfield 59, 3) := by decide +kernel
theorem dX10_noteWrite_20 : decode cX10_noteWrite 20 = .ok (.iload_n 1, 1) := by decide +kernel
theorem dX10_noteWrite_21 : decode cX10_noteWrite 21 = .ok (.iastore, 1) := by decide +kernel
theorem dX10_noteWrite_22 : decode cX10_noteWrite 22 = .ok (.aload_n 0, 1) := by decide +kernel
theorem dX10_noteWrite_23 : decode cX10_noteWrite 23 = .ok (.getfield 34, 3) := by decide +kernel
theorem dX10_noteWrite_26 : decode cX10_noteWrite 26 = .ok (.aload_n 0, 1) := by decide +kernel
theorem dX10_noteWrite_27 : decode cX10_noteWrite 27 = .ok (.getfield 59, 3) := by decide +kernel
theorem dX10_noteWrite_30 : decode cX10_noteWrite 30 = .ok (.aload_n 2, 1) := by decide +kernel
theorem dX10_noteWrite_31 : decode cX10_noteWrite 31 = .ok (.getfield 165, 3) := by decide +kernel
theorem dX10_noteWrite_34 : decode cX10_noteWrite 34 = .ok (.iastore, 1) := by decide +kernel
theorem dX10_noteWrite_35 : decode cX10_noteWrite 35 = .ok (.aload_n 0, 1) := by decide +kernel
theorem dX10_noteWrite_36 : decode cX10_noteWrite 36 = .ok (.getfield 37, 3) := by decide +kernel
theorem dX10_noteWrite_39 : decode cX10_noteWrite 39 = .ok (.aload_n 0, 1) := by decide +kernel
theorem dX10_noteWrite_40 : decode cX10_noteWrite 40 = .ok (.getfield 59, 3) := by decide +kernel
theorem dX10_noteWrite_43 : decode cX10_noteWrite 43 = .ok (.aload_n 2, 1) := by decide +kernel
theorem dX10_noteWrite_44 : decode cX10_noteWrite 44 = .ok (.getfield 207, 3) := by decide +kernel
theorem dX10_noteWrite_47 : decode cX10_noteWrite 47 = .ok (.iastore, 1) := by decide +kernel
theorem dX10_noteWrite_48 : decode cX10_noteWrite 48 = .ok (.aload_n 0, 1) := by decide +kernel
theorem dX10_noteWrite_49 : decode cX10_noteWrite 49 = .ok (.getfield 40, 3) := by decide +kernel
theorem dX10_noteWrite_52 : decode cX10_noteWrite 52 = .ok (.aload_n 0, 1) := by decide +kernel
theorem dX10_noteWrite_53 : decode cX10_noteWrite 53 = .ok (.getfield 59, 3) := by decide +kernel
theorem dX10_noteWrite_56 : decode cX10_noteWrite 56 = .ok (.iload_n 3, 1) := by decide +kernel
theorem dX10_noteWrite_57 : decode cX10_noteWrite 57 = .ok (.iastore, 1) := by decide +kernel
theorem dX10_noteWrite_58 : decode cX10_noteWrite 58 = .ok (.aload_n 0, 1) := by decide +kernel
theorem dX10_noteWrite_59 : decode cX10_noteWrite 59 = .ok (.dup, 1) := by decide +kernel
theorem dX10_noteWrite_60 : decode cX10_noteWrite 60 = .ok (.getfield 59, 3) := by decide +kernel
theorem dX10_noteWrite_63 : decode cX10_noteWrite 63 = .ok (.iconst 1, 1) := by decide +kernel
theorem dX10_noteWrite_64 : decode cX10_noteWrite 64 = .ok (.iadd, 1) := by decide +kernel
theorem dX10_noteWrite_65 : decode cX10_noteWrite 65 = .ok (.putfield 59, 3) := by decide +kernel
theorem dX10_noteWrite_68 : decode cX10_noteWrite 68 = .ok (.return_, 1) := by decide +kernel
theorem dX10_breakOff_0 : decode cX10_breakOff 0 = .ok (.aload_n 0, 1) := by decide +kernel
theorem dX10_breakOff_1 : decode cX10_breakOff 1 = .ok (.iload_n 1, 1) := by decide +kernel
theorem dX10_breakOff_2 : decode cX10_breakOff 2 = .ok (.putfield 91, 3) := by decide +kernel
theorem dX10_breakOff_5 : decode cX10_breakOff 5 = .ok (.aload_n 2, 1) := by decide +kernel
theorem dX10_breakOff_6 : decode cX10_breakOff 6 = .ok (.ifnull 19, 3) := by decide +kernel
theorem dX10_breakOff_9 : decode cX10_breakOff 9 = .ok (.aload_n 0, 1) := by decide +kernel
theorem dX10_breakOff_10 : decode cX10_breakOff 10 = .ok (.aload_n 2, 1) := by decide +kernel
theorem dX10_breakOff_11 : decode cX10_breakOff 11 = .ok (.getfield 165, 3) := by decide +kernel
theorem dX10_breakOff_14 : decode cX10_breakOff 14 = .ok (.putfield 17, 3) := by decide +kernel
theorem dX10_breakOff_17 : decode cX10_breakOff 17 = .ok (.aload_n 0, 1) := by decide +kernel
theorem dX10_breakOff_18 : decode cX10_breakOff 18 = .ok (.aload_n 2, 1) := by decide +kernel
theorem dX10_breakOff_19 : decode cX10_breakOff 19 = .ok (.getfield 207, 3) := by decide +kernel
theorem dX10_breakOff_22 : decode cX10_breakOff 22 = .ok (.putfield 21, 3) := by decide +kernel
theorem dX10_breakOff_25 : decode cX10_breakOff 25 = .ok (.aload_n 0, 1) := by decide +kernel
theorem dX10_breakOff_26 : decode cX10_breakOff 26 = .ok (.iload_n 3, 1) := by decide +kernel
theorem dX10_breakOff_27 : decode cX10_breakOff 27 = .ok (.putfield 24, 3) := by decide +kernel
theorem dX10_breakOff_30 : decode cX10_breakOff 30 = .ok (.aload_n 0, 1) := by decide +kernel
theorem dX10_breakOff_31 : decode cX10_breakOff 31 = .ok (.iload 4, 2) := by decide +kernel
theorem dX10_breakOff_33 : decode cX10_breakOff 33 = .ok (.putfield 27, 3) := by decide +kernel
theorem dX10_breakOff_36 : decode cX10_breakOff 36 = .ok (.iconst 0, 1) := by decide +kernel
theorem dX10_breakOff_37 : decode cX10_breakOff 37 = .ok (.ireturn, 1) := by decide +kernel
theorem dX11_init_0 : decode cX11_init 0 = .ok (.aload_n 0, 1) := by decide +kernel
theorem dX11_init_1 : decode cX11_init 1 = .ok (.invokespecial 1, 3) := by decide +kernel
theorem dX11_init_4 : decode cX11_init 4 = .ok (.aload_n 0, 1) := by decide +kernel
theorem dX11_init_5 : decode cX11_init 5 = .ok (.sipush 3000, 3) := by decide +kernel
theorem dX11_init_8 : decode cX11_init 8 = .ok (.newarray .byte, 2) := by decide +kernel
theorem dX11_init_10 : decode cX11_init 10 = .ok (.putfield 9, 3) := by decide +kernel
theorem dX11_init_13 : decode cX11_init 13 = .ok (.aload_n 0, 1) := by decide +kernel
theorem dX11_init_14 : decode cX11_init 14 = .ok (.new 13, 3) := by decide +kernel
theorem dX11_init_17 : decode cX11_init 17 = .ok (.dup, 1) := by decide +kernel
theorem dX11_init_18 : decode cX11_init 18 = .ok (.invokespecial 15, 3) := by decide +kernel
theorem dX11_init_21 : decode cX11_init 21 = .ok (.putfield 16, 3) := by decide +kernel
theorem dX11_init_24 : decode cX11_init 24 = .ok (.aload_n 0, 1) := by decide +kernel
theorem dX11_init_25 : decode cX11_init 25 = .ok (.new 20, 3) := by decide +kernel
theorem dX11_init_28 : decode cX11_init 28 = .ok (.dup, 1) := by decide +kernel
theorem dX11_init_29 : decode cX11_init 29 = .ok (.aload_n 0, 1) := by decide +kernel
theorem dX11_init_30 : decode cX11_init 30 = .ok (.getfield 16, 3) := by decide +kernel
theorem dX11_init_33 : decode cX11_init 33 = .ok (.invokespecial 22, 3) := by decide +kernel
theorem dX11_init_36 : decode cX11_init 36 = .ok (.putfield 25, 3) := by decide +kernel
theorem dX11_init_39 : decode cX11_init 39 = .ok (.aload_n 0, 1) := by decide +kernel
theorem dX11_init_40 : decode cX11_init 40 = .ok (.new 29, 3) := by decide +kernel
theorem dX11_init_43 : decode cX11_init 43 = .ok (.dup, 1) := by decide +kernel
theorem dX11_init_44 : decode cX11_init 44 = .ok (.invokespecial 31, 3) := by decide +kernel
theorem dX11_init_47 : decode cX11_init 47 = .ok (.putfield 32, 3) := by decide +kernel
theorem dX11_init_50 : decode cX11_init 50 = .ok (.aload_n 0, 1) := by decide +kernel
theorem dX11_init_51 : decode cX11_init 51 = .ok (.new 36, 3) := by decide +kernel
theorem dX11_init_54 : decode cX11_init 54 = .ok (.dup, 1) := by decide +kernel
theorem dX11_init_55 : decode cX11_init 55 = .ok (.aload_n 0, 1) := by decide +kernel
theorem dX11_init_56 : decode cX11_init 56 = .ok (.getfield 16, 3) := by decide +kernel
theorem dX11_init_59 : decode cX11_init 59 = .ok (.aload_n 0, 1) := by decide +kernel
theorem dX11_init_60 : decode cX11_init 60 = .ok (.getfield 32, 3) := by decide +kernel
theorem dX11_init_63 : decode cX11_init 63 = .ok (.invokespecial 38, 3) := by decide +kernel
theorem dX11_init_66 : decode cX11_init 66 = .ok (.putfield 41, 3) := by decide +kernel
theorem dX11_init_69 : decode cX11_init 69 = .ok (.aload_n 0, 1) := by decide +kernel
theorem dX11_init_70 : decode cX11_init 70 = .ok (.new 45, 3) := by decide +kernel
theorem dX11_init_73 : decode cX11_init 73 = .ok (.dup, 1) := by decide +kernel
theorem dX11_init_74 : decode cX11_init 74 = .ok (.new 47, 3) := by decide +kernel
theorem dX11_init_77 : decode cX11_init 77 = .ok (.dup, 1) := by decide +kernel
theorem dX11_init_78 : decode cX11_init 78 = .ok (.invokespecial 49, 3) := by decide +kernel
theorem dX11_init_81 : decode cX11_init 81 = .ok (.invokespecial 50, 3) := by decide +kernel
theorem dX11_init_84 : decode cX11_init 84 = .ok (.putfield 53, 3) := by decide +kernel
theorem dX11_init_87 : decode cX11_init 87 = .ok (.aload_n 0, 1) := by decide +kernel
theorem dX11_init_88 : decode cX11_init 88 = .ok (.new 47, 3) := by decide +kernel
theorem dX11_init_91 : decode cX11_init 91 = .ok (.dup, 1) := by decide +kernel
theorem dX11_init_92 : decode cX11_init 92 = .ok (.invokespecial 49, 3) := by decide +kernel
theorem dX11_init_95 : decode cX11_init 95 = .ok (.putfield 57, 3) := by decide +kernel
theorem dX11_init_98 : decode cX11_init 98 = .ok (.aload_n 0, 1) := by decide +kernel
theorem dX11_init_99 : decode cX11_init 99 = .ok (.bipush 12, 2) := by decide +kernel
theorem dX11_init_101 : decode cX11_init 101 = .ok (.newarray .int, 2) := by decide +kernel
theorem dX11_init_103 : decode cX11_init 103 = .ok (.putfield 61, 3) := by decide +kernel
theorem dX11_init_106 : decode cX11_init 106 = .ok (.aload_n 0, 1) := by decide +kernel
theorem dX11_init_107 : decode cX11_init 107 = .ok (.iconst 4, 1) := by decide +kernel
theorem dX11_init_108 : decode cX11_init 108 = .ok (.anewarray 65, 3) := by decide +kernel
theorem dX11_init_111 : decode cX11_init 111 = .ok (.putfield 67, 3) := by decide +kernel
theorem dX11_init_114 : decode cX11_init 114 = .ok (.iconst 0, 1) := by decide +kernel
theorem dX11_init_115 : decode cX11_init 115 = .ok (.istore_n 1, 1) := by decide +kernel
theorem dX11_init_116 : decode cX11_init 116 = .ok (.iload_n 1, 1) := by decide +kernel
theorem dX11_init_117 : decode cX11_init 117 = .ok (.iconst 4, 1) := by decide +kernel
theorem dX11_init_118 : decode cX11_init 118 = .ok (.if_icmp .ge 27, 3) := by decide +kernel
theorem dX11_init_121 : decode cX11_init 121 = .ok (.aload_n 0, 1) := by decide +kernel
theorem dX11_init_122 : decode cX11_init 122 = .ok (.getfield 67, 3) := by decide +kernel
theorem dX11_init_125 : decode cX11_init 125 = .ok (.iload_n 1, 1) := by decide +kernel
theorem dX11_init_126 : decode cX11_init 126 = .ok (.new 65, 3) := by decide +kernel
theorem dX11_init_129 : decode cX11_init 129 = .ok (.dup, 1) := by decide +kernel
theorem dX11_init_130 : decode cX11_init 130 = .ok (.iload_n 1, 1) := by decide +kernel
theorem dX11_init_131 : decode cX11_init 131 = .ok (.aload_n 0, 1) := by decide +kernel
theorem dX11_init_132 : decode cX11_init 132 = .ok (.getfield 53, 3) := by decide +kernel
theorem dX11_init_135 : decode cX11_init 135 = .ok (.invokespecial 71, 3) := by decide +kernel
theorem dX11_init_138 : decode cX11_init 138 = .ok (.aastore, 1) := by decide +kernel
theorem dX11_init_139 : decode cX11_init 139 = .ok (.iinc 1 1, 3) := by decide +kernel
theorem dX11_init_142 : decode cX11_init 142 = .ok (.goto (-26), 3) := by decide +kernel
theorem dX11_init_145 : decode cX11_init 145 = .ok (.aload_n 0, 1) := by decide +kernel
theorem dX11_init_146 : decode cX11_init 146 = .ok (.new 74, 3) := by decide +kernel
theorem dX11_init_149 : decode cX11_init 149 = .ok (.dup, 1) := by decide +kernel
theorem dX11_init_150 : decode cX11_init 150 = .ok (.aload_n 0, 1) := by decide +kernel
theorem dX11_init_151 : decode cX11_init 151 = .ok (.getfield 53, 3) := by decide +kernel
theorem dX11_init_154 : decode cX11_init 154 = .ok (.invokespecial 76, 3) := by decide +kernel
theorem dX11_init_157 : decode cX11_init 157 = .ok (.putfield 79, 3) := by decide +kernel
theorem dX11_init_160 : decode cX11_init 160 = .ok (.aload_n 0, 1) := by decide +kernel
theorem dX11_init_161 : decode cX11_init 161 = .ok (.bipush 60, 2) := by decide +kernel
theorem dX11_init_163 : decode cX11_init 163 = .ok (.newarray .int, 2) := by decide +kernel
theorem dX11_init_165 : decode cX11_init 165 = .ok (.putfield 83, 3) := by decide +kernel
theorem dX11_init_168 : decode cX11_init 168 = .ok (.return_, 1) := by decide +kernel
theorem dX11_feed_0 : decode cX11_feed 0 = .ok (.aload_n 0, 1) := by decide +kernel
theorem dX11_feed_1 : decode cX11_feed 1 = .ok (.getfield 86, 3) := by decide +kernel
theorem dX11_feed_4 : decode cX11_feed 4 = .ok (.bipush 20, 2) := by decide +kernel
theorem dX11_feed_6 : decode cX11_feed 6 = .ok (.iadd, 1) := by decide +kernel
theorem dX11_feed_7 : decode cX11_feed 7 = .ok (.sipush 3000, 3) := by decide +kernel
theorem dX11_feed_10 : decode cX11_feed 10 = .ok (.if_icmp .le 5, 3) := by decide +kernel
theorem dX11_feed_13 : decode cX11_feed 13 = .ok (.iconst (-1), 1) := by decide +kernel
theorem dX11_feed_14 : decode cX11_feed 14 = .ok (.ireturn, 1) := by decide +kernel
theorem dX11_feed_15 : decode cX11_feed 15 = .ok (.aload_n 0, 1) := by decide +kernel
theorem dX11_feed_16 : decode cX11_feed 16 = .ok (.iload_n 1, 1) := by decide +kernel
theorem dX11_feed_17 : decode cX11_feed 17 = .ok (.invokevirtual 90, 3) := by decide +kernel
theorem dX11_feed_20 : decode cX11_feed 20 = .ok (.aload_n 0, 1) := by decide +kernel
theorem dX11_feed_21 : decode cX11_feed 21 = .ok (.iload_n 2, 1) := by decide +kernel
theorem dX11_feed_22 : decode cX11_feed 22 = .ok (.invokevirtual 90, 3) := by decide +kernel
theorem dX11_feed_25 : decode cX11_feed 25 = .ok (.aload_n 0, 1) := by decide +kernel
theorem dX11_feed_26 : decode cX11_feed 26 = .ok (.iload_n 3, 1) := by decide +kernel
theorem dX11_feed_27 : decode cX11_feed 27 = .ok (.invokevirtual 90, 3) := by decide +kernel
theorem dX11_feed_30 : decode cX11_feed 30 = .ok (.aload_n 0, 1) := by decide +kernel
theorem dX11_feed_31 : decode cX11_feed 31 = .ok (.iload 4, 2) := by decide +kernel
theorem dX11_feed_33 : decode cX11_feed 33 = .ok (.invokevirtual 90, 3) := by decide +kernel
theorem dX11_feed_36 : decode cX11_feed 36 = .ok (.aload_n 0, 1) := by decide +kernel
theorem dX11_feed_37 : decode cX11_feed 37 = .ok (.iload 5, 2) := by decide +kernel
theorem dX11_feed_39 : decode cX11_feed 39 = .ok (.invokevirtual 90, 3) := by decide +kernel
theorem dX11_feed_42 : decode cX11_feed 42 = .ok (.aload_n 0, 1) := by decide +kernel
theorem dX11_feed_43 : decode cX11_feed 43 = .ok (.getfield 86, 3) := by decide +kernel
theorem dX11_feed_46 : decode cX11_feed 46 = .ok (.ireturn, 1) := by decide +kernel
theorem dX11_end_0 : decode cX11_end 0 = .ok (.iload_n 1, 1) := by decide +kernel
theorem dX11_end_1 : decode cX11_end 1 = .ok (.ifCond .lt 11, 3) := by decide +kernel
theorem dX11_end_4 : decode cX11_end 4 = .ok (.iload_n 1, 1) := by decide +kernel
theorem dX11_end_5 : decode cX11_end 5 = .ok (.aload_n 0, 1) := by decide +kernel
theorem dX11_end_6 : decode cX11_end 6 = .ok (.getfield 86, 3) := by decide +kernel
theorem dX11_end_9 : decode cX11_end 9 = .ok (.if_icmp .le 5, 3) := by decide +kernel
theorem dX11_end_12 : decode cX11_end 12 = .ok (.iconst (-1), 1) := by decide +kernel
theorem dX11_end_13 : decode cX11_end 13 = .ok (.ireturn, 1) := by decide +kernel
theorem dX11_end_14 : decode cX11_end 14 = .ok (.aload_n 0, 1) := by decide +kernel
theorem dX11_end_15 : decode cX11_end 15 = .ok (.iload_n 1, 1) := by decide +kernel
theorem dX11_end_16 : decode cX11_end 16 = .ok (.putfield 86, 3) := by decide +kernel
theorem dX11_end_19 : decode cX11_end 19 = .ok (.iload_n 1, 1) := by decide +kernel
theorem dX11_end_20 : decode cX11_end 20 = .ok (.ireturn, 1) := by decide +kernel
theorem dX11_map_0 : decode cX11_map 0 = .ok (.aload_n 0, 1) := by decide +kernel
theorem dX11_map_1 : decode cX11_map 1 = .ok (.getfield 16, 3) := by decide +kernel
theorem dX11_map_4 : decode cX11_map 4 = .ok (.aload_n 0, 1) := by decide +kernel
theorem dX11_map_5 : decode cX11_map 5 = .ok (.getfield 9, 3) := by decide +kernel
theorem dX11_map_8 : decode cX11_map 8 = .ok (.aload_n 0, 1) := by decide +kernel
theorem dX11_map_9 : decode cX11_map 9 = .ok (.getfield 86, 3) := by decide +kernel
theorem dX11_map_12 : decode cX11_map 12 = .ok (.invokevirtual 94, 3) := by decide +kernel
theorem dX11_map_15 : decode cX11_map 15 = .ok (.aload_n 0, 1) := by decide +kernel
theorem dX11_map_16 : decode cX11_map 16 = .ok (.iconst 0, 1) := by decide +kernel
theorem dX11_map_17 : decode cX11_map 17 = .ok (.putfield 86, 3) := by decide +kernel
theorem dX11_map_20 : decode cX11_map 20 = .ok (.aload_n 0, 1) := by decide +kernel
theorem dX11_map_21 : decode cX11_map 21 = .ok (.getfield 25, 3) := by decide +kernel
theorem dX11_map_24 : decode cX11_map 24 = .ok (.aload_n 0, 1) := by decide +kernel
theorem dX11_map_25 : decode cX11_map 25 = .ok (.getfield 57, 3) := by decide +kernel
theorem dX11_map_28 : decode cX11_map 28 = .ok (.invokevirtual 98, 3) := by decide +kernel
theorem dX11_map_31 : decode cX11_map 31 = .ok (.ifCond .ne 5, 3) := by decide +kernel
theorem dX11_map_34 : decode cX11_map 34 = .ok (.iconst (-1), 1) := by decide +kernel
theorem dX11_map_35 : decode cX11_map 35 = .ok (.ireturn, 1) := by decide +kernel
theorem dX11_map_36 : decode cX11_map 36 = .ok (.aload_n 0, 1) := by decide +kernel
theorem dX11_map_37 : decode cX11_map 37 = .ok (.getfield 53, 3) := by decide +kernel
theorem dX11_map_40 : decode cX11_map 40 = .ok (.getfield 102, 3) := by decide +kernel
theorem dX11_map_43 : decode cX11_map 43 = .ok (.astore_n 1, 1) := by decide +kernel
theorem dX11_map_44 : decode cX11_map 44 = .ok (.aload_n 0, 1) := by decide +kernel
theorem dX11_map_45 : decode cX11_map 45 = .ok (.getfield 53, 3) := by decide +kernel
theorem dX11_map_48 : decode cX11_map 48 = .ok (.aload_n 0, 1) := by decide +kernel
theorem dX11_map_49 : decode cX11_map 49 = .ok (.getfield 57, 3) := by decide +kernel
theorem dX11_map_52 : decode cX11_map 52 = .ok (.putfield 102, 3) := by decide +kernel
theorem dX11_map_55 : decode cX11_map 55 = .ok (.aload_n 0, 1) := by decide +kernel
theorem dX11_map_56 : decode cX11_map 56 = .ok (.aload_n 1, 1) := by decide +kernel
theorem dX11_map_57 : decode cX11_map 57 = .ok (.putfield 57, 3) := by decide +kernel
theorem dX11_map_60 : decode cX11_map 60 = .ok (.aload_n 0, 1) := by decide +kernel
theorem dX11_map_61 : decode cX11_map 61 = .ok (.invokevirtual 105, 3) := by decide +kernel
theorem dX11_map_64 : decode cX11_map 64 = .ok (.aload_n 0, 1) := by decide +kernel
theorem dX11_map_65 : decode cX11_map 65 = .ok (.getfield 53, 3) := by decide +kernel
theorem dX11_map_68 : decode cX11_map 68 = .ok (.getfield 102, 3) := by decide +kernel
theorem dX11_map_71 : decode cX11_map 71 = .ok (.getfield 108, 3) := by decide +kernel
theorem dX11_map_74 : decode cX11_map 74 = .ok (.ireturn, 1) := by decide +kernel
theorem dX11_fault_0 : decode cX11_fault 0 = .ok (.iload_n 1, 1) := by decide +kernel
theorem dX11_fault_1 : decode cX11_fault 1 = .ok (.lookupswitch 43 #[(0, 27), (1, 35)], 27) := by decide +kernel
theorem dX11_fault_28 : decode cX11_fault 28 = .ok (.aload_n 0, 1) := by decide +kernel
theorem dX11_fault_29 : decode cX11_fault 29 = .ok (.getfield 16, 3) := by decide +kernel
theorem dX11_fault_32 : decode cX11_fault 32 = .ok (.getfield 111, 3) := by decide +kernel
theorem dX11_fault_35 : decode cX11_fault 35 = .ok (.ireturn, 1) := by decide +kernel
theorem dX11_fault_36 : decode cX11_fault 36 = .ok (.aload_n 0, 1) := by decide +kernel
theorem dX11_fault_37 : decode cX11_fault 37 = .ok (.getfield 16, 3) := by decide +kernel
theorem dX11_fault_40 : decode cX11_fault 40 = .ok (.getfield 114, 3) := by decide +kernel
theorem dX11_fault_43 : decode cX11_fault 43 = .ok (.ireturn, 1) := by decide +kernel
theorem dX11_fault_44 : decode cX11_fault 44 = .ok (.iconst (-1), 1) := by decide +kernel
theorem dX11_fault_45 : decode cX11_fault 45 = .ok (.ireturn, 1) := by decide +kernel
theorem dX11_look_0 : decode cX11_look 0 = .ok (.aload_n 0, 1) := by decide +kernel
theorem dX11_look_1 : decode cX11_look 1 = .ok (.getfield 53, 3) := by decide +kernel
theorem dX11_look_4 : decode cX11_look 4 = .ok (.getfield 102, 3) := by decide +kernel
theorem dX11_look_7 : decode cX11_look 7 = .ok (.iload_n 1, 1) := by decide +kernel
theorem dX11_look_8 : decode cX11_look 8 = .ok (.invokevirtual 117, 3) := by decide +kernel
theorem dX11_look_11 : decode cX11_look 11 = .ok (.astore_n 3, 1) := by decide +kernel
theorem dX11_look_12 : decode cX11_look 12 = .ok (.aload_n 3, 1) := by decide +kernel
theorem dX11_look_13 : decode cX11_look 13 = .ok (.ifnonnull 5, 3) := by decide +kernel
theorem dX11_look_16 : decode cX11_look 16 = .ok (.iconst (-1), 1) := by decide +kernel
theorem dX11_look_17 : decode cX11_look 17 = .ok (.ireturn, 1) := by decide +kernel
theorem dX11_look_18 : decode cX11_look 18 = .ok (.iload_n 2, 1) := by decide +kernel
theorem dX11_look_19 : decode cX11_look 19 = .ok (.tableswitch 49 0 3 #[29, 34, 39, 44], 29) := by decide +kernel
theorem dX11_look_48 : decode cX11_look 48 = .ok (.aload_n 3, 1) := by decide +kernel
theorem dX11_look_49 : decode cX11_look 49 = .ok (.getfield 121, 3) := by decide +kernel
theorem dX11_look_52 : decode cX11_look 52 = .ok (.ireturn, 1) := by decide +kernel
theorem dX11_look_53 : decode cX11_look 53 = .ok (.aload_n 3, 1) := by decide +kernel
theorem dX11_look_54 : decode cX11_look 54 = .ok (.getfield 126, 3) := by decide +kernel
theorem dX11_look_57 : decode cX11_look 57 = .ok (.ireturn, 1) := by decide +kernel
theorem dX11_look_58 : decode cX11_look 58 = .ok (.aload_n 3, 1) := by decide +kernel
theorem dX11_look_59 : decode cX11_look 59 = .ok (.getfield 129, 3) := by decide +kernel
theorem dX11_look_62 : decode cX11_look 62 = .ok (.ireturn, 1) := by decide +kernel
theorem dX11_look_63 : decode cX11_look 63 = .ok (.aload_n 3, 1) := by decide +kernel
theorem dX11_look_64 : decode cX11_look 64 = .ok (.getfield 132, 3) := by decide +kernel
theorem dX11_look_67 : decode cX11_look 67 = .ok (.ireturn, 1) := by decide +kernel
theorem dX11_look_68 : decode cX11_look 68 = .ok (.iconst (-1), 1) := by decide +kernel
theorem dX11_look_69 : decode cX11_look 69 = .ok (.ireturn, 1) := by decide +kernel
theorem dX11_member_0 : decode cX11_member 0 = .ok (.aload_n 0, 1) := by decide +kernel
theorem dX11_member_1 : decode cX11_member 1 = .ok (.getfield 53, 3) := by decide +kernel
theorem dX11_member_4 : decode cX11_member 4 = .ok (.getfield 102, 3) := by decide +kernel
theorem dX11_member_7 : decode cX11_member 7 = .ok (.iload_n 1, 1) := by decide +kernel
theorem dX11_member_8 : decode cX11_member 8 = .ok (.iload_n 2, 1) := by decide +kernel
theorem dX11_member_9 : decode cX11_member 9 = .ok (.invokevirtual 135, 3) := by decide +kernel
theorem dX11_member_12 : decode cX11_member 12 = .ok (.astore 4, 2) := by decide +kernel
theorem dX11_member_14 : decode cX11_member 14 = .ok (.aload 4, 2) := by decide +kernel
theorem dX11_member_16 : decode cX11_member 16 = .ok (.ifnonnull 5, 3) := by decide +kernel
theorem dX11_member_19 : decode cX11_member 19 = .ok (.iconst (-1), 1) := by decide +kernel
theorem dX11_member_20 : decode cX11_member 20 = .ok (.ireturn, 1) := by decide +kernel
theorem dX11_member_21 : decode cX11_member 21 = .ok (.iload_n 3, 1) := by decide +kernel
theorem dX11_member_22 : decode cX11_member 22 = .ok (.tableswitch 83 0 3 #[30, 36, 58, 64], 30) := by decide +kernel
theorem dX11_member_52 : decode cX11_member 52 = .ok (.aload 4, 2) := by decide +kernel
theorem dX11_member_54 : decode cX11_member 54 = .ok (.getfield 139, 3) := by decide +kernel
theorem dX11_member_57 : decode cX11_member 57 = .ok (.ireturn, 1) := by decide +kernel
theorem dX11_member_58 : decode cX11_member 58 = .ok (.aload 4, 2) := by decide +kernel
theorem dX11_member_60 : decode cX11_member 60 = .ok (.invokevirtual 144, 3) := by decide +kernel
theorem dX11_member_63 : decode cX11_member 63 = .ok (.ifCond .eq 11, 3) := by decide +kernel
theorem dX11_member_66 : decode cX11_member 66 = .ok (.aload 4, 2) := by decide +kernel
theorem dX11_member_68 : decode cX11_member 68 = .ok (.getfield 148, 3) := by decide +kernel
theorem dX11_member_71 : decode cX11_member 71 = .ok (.goto 8, 3) := by decide +kernel
theorem dX11_member_74 : decode cX11_member 74 = .ok (.aload 4, 2) := by decide +kernel
theorem dX11_member_76 : decode cX11_member 76 = .ok (.getfield 151, 3) := by decide +kernel
theorem dX11_member_79 : decode cX11_member 79 = .ok (.ireturn, 1) := by decide +kernel
theorem dX11_member_80 : decode cX11_member 80 = .ok (.aload 4, 2) := by decide +kernel
theorem dX11_member_82 : decode cX11_member 82 = .ok (.getfield 154, 3) := by decide +kernel
theorem dX11_member_85 : decode cX11_member 85 = .ok (.ireturn, 1) := by decide +kernel
theorem dX11_member_86 : decode cX11_member 86 = .ok (.aload 4, 2) := by decide +kernel
theorem dX11_member_88 : decode cX11_member 88 = .ok (.getfield 139, 3) := by decide +kernel
theorem dX11_member_91 : decode cX11_member 91 = .ok (.iconst 5, 1) := by decide +kernel
theorem dX11_member_92 : decode cX11_member 92 = .ok (.if_icmp .ne 11, 3) := by decide +kernel
theorem dX11_member_95 : decode cX11_member 95 = .ok (.aload 4, 2) := by decide +kernel
theorem dX11_member_97 : decode cX11_member 97 = .ok (.getfield 157, 3) := by decide +kernel
theorem dX11_member_100 : decode cX11_member 100 = .ok (.goto 4, 3) := by decide +kernel
theorem dX11_member_103 : decode cX11_member 103 = .ok (.iconst (-1), 1) := by decide +kernel
theorem dX11_member_104 : decode cX11_member 104 = .ok (.ireturn, 1) := by decide +kernel
theorem dX11_member_105 : decode cX11_member 105 = .ok (.iconst (-1), 1) := by decide +kernel
theorem dX11_member_106 : decode cX11_member 106 = .ok (.ireturn, 1) := by decide +kernel
theorem dX11_unit_0 : decode cX11_unit 0 = .ok (.iconst 0, 1) := by decide +kernel
theorem dX11_unit_1 : decode cX11_unit 1 = .ok (.istore_n 1, 1) := by decide +kernel
theorem dX11_unit_2 : decode cX11_unit 2 = .ok (.iload_n 1, 1) := by decide +kernel
theorem dX11_unit_3 : decode cX11_unit 3 = .ok (.iconst 4, 1) := by decide +kernel
theorem dX11_unit_4 : decode cX11_unit 4 = .ok (.if_icmp .ge 32, 3) := by decide +kernel
theorem dX11_unit_7 : decode cX11_unit 7 = .ok (.aload_n 0, 1) := by decide +kernel
theorem dX11_unit_8 : decode cX11_unit 8 = .ok (.getfield 67, 3) := by decide +kernel
theorem dX11_unit_11 : decode cX11_unit 11 = .ok (.iload_n 1, 1) := by decide +kernel
theorem dX11_unit_12 : decode cX11_unit 12 = .ok (.aaload, 1) := by decide +kernel
theorem dX11_unit_13 : decode cX11_unit 13 = .ok (.getfield 160, 3) := by decide +kernel
theorem dX11_unit_16 : decode cX11_unit 16 = .ok (.ifCond .ne 14, 3) := by decide +kernel
theorem dX11_unit_19 : decode cX11_unit 19 = .ok (.aload_n 0, 1) := by decide +kernel
theorem dX11_unit_20 : decode cX11_unit 20 = .ok (.getfield 67, 3) := by decide +kernel
theorem dX11_unit_23 : decode cX11_unit 23 = .ok (.iload_n 1, 1) := by decide +kernel
theorem dX11_unit_24 : decode cX11_unit 24 = .ok (.aaload, 1) := by decide +kernel
theorem dX11_unit_25 : decode cX11_unit 25 = .ok (.invokevirtual 164, 3) := by decide +kernel
theorem dX11_unit_28 : decode cX11_unit 28 = .ok (.iload_n 1, 1) := by decide +kernel
theorem dX11_unit_29 : decode cX11_unit 29 = .ok (.ireturn, 1) := by decide +kernel
theorem dX11_unit_30 : decode cX11_unit 30 = .ok (.iinc 1 1, 3) := by decide +kernel
theorem dX11_unit_33 : decode cX11_unit 33 = .ok (.goto (-31), 3) := by decide +kernel
theorem dX11_unit_36 : decode cX11_unit 36 = .ok (.iconst (-1), 1) := by decide +kernel
theorem dX11_unit_37 : decode cX11_unit 37 = .ok (.ireturn, 1) := by decide +kernel
theorem dX11_close_0 : decode cX11_close 0 = .ok (.aload_n 0, 1) := by decide +kernel
theorem dX11_close_1 : decode cX11_close 1 = .ok (.iload_n 1, 1) := by decide +kernel
theorem dX11_close_2 : decode cX11_close 2 = .ok (.invokevirtual 167, 3) := by decide +kernel
theorem dX11_close_5 : decode cX11_close 5 = .ok (.astore_n 3, 1) := by decide +kernel
theorem dX11_close_6 : decode cX11_close 6 = .ok (.aload_n 3, 1) := by decide +kernel
theorem dX11_close_7 : decode cX11_close 7 = .ok (.ifnull 12, 3) := by decide +kernel
theorem dX11_close_10 : decode cX11_close 10 = .ok (.iload_n 2, 1) := by decide +kernel
theorem dX11_close_11 : decode cX11_close 11 = .ok (.ifCond .lt 8, 3) := by decide +kernel
theorem dX11_close_14 : decode cX11_close 14 = .ok (.iload_n 2, 1) := by decide +kernel
theorem dX11_close_15 : decode cX11_close 15 = .ok (.iconst 1, 1) := by decide +kernel
theorem dX11_close_16 : decode cX11_close 16 = .ok (.if_icmp .le 5, 3) := by decide +kernel
theorem dX11_close_19 : decode cX11_close 19 = .ok (.iconst (-1), 1) := by decide +kernel
theorem dX11_close_20 : decode cX11_close 20 = .ok (.ireturn, 1) := by decide +kernel
theorem dX11_close_21 : decode cX11_close 21 = .ok (.iload_n 2, 1) := by decide +kernel
theorem dX11_close_22 : decode cX11_close 22 = .ok (.iconst 1, 1) := by decide +kernel
theorem dX11_close_23 : decode cX11_close 23 = .ok (.if_icmp .ne 14, 3) := by decide +kernel
theorem dX11_close_26 : decode cX11_close 26 = .ok (.aload_n 0, 1) := by decide +kernel
theorem dX11_close_27 : decode cX11_close 27 = .ok (.getfield 79, 3) := by decide +kernel
theorem dX11_close_30 : decode cX11_close 30 = .ok (.aload_n 3, 1) := by decide +kernel
theorem dX11_close_31 : decode cX11_close 31 = .ok (.invokevirtual 171, 3) := by decide +kernel
theorem dX11_close_34 : decode cX11_close 34 = .ok (.goto 4, 3) := by decide +kernel
theorem dX11_close_37 : decode cX11_close 37 = .ok (.iconst 0, 1) := by decide +kernel
theorem dX11_close_38 : decode cX11_close 38 = .ok (.istore 4, 2) := by decide +kernel
theorem dX11_close_40 : decode cX11_close 40 = .ok (.iload 4, 2) := by decide +kernel
theorem dX11_close_42 : decode cX11_close 42 = .ok (.ifCond .ne 8, 3) := by decide +kernel
theorem dX11_close_45 : decode cX11_close 45 = .ok (.aload_n 3, 1) := by decide +kernel
theorem dX11_close_46 : decode cX11_close 46 = .ok (.iconst 0, 1) := by decide +kernel
theorem dX11_close_47 : decode cX11_close 47 = .ok (.putfield 160, 3) := by decide +kernel
theorem dX11_close_50 : decode cX11_close 50 = .ok (.iload 4, 2) := by decide +kernel
theorem dX11_close_52 : decode cX11_close 52 = .ok (.ireturn, 1) := by decide +kernel
theorem dX11_flush_0 : decode cX11_flush 0 = .ok (.aload_n 0, 1) := by decide +kernel
theorem dX11_flush_1 : decode cX11_flush 1 = .ok (.iload_n 1, 1) := by decide +kernel
theorem dX11_flush_2 : decode cX11_flush 2 = .ok (.invokevirtual 167, 3) := by decide +kernel
theorem dX11_flush_5 : decode cX11_flush 5 = .ok (.astore_n 2, 1) := by decide +kernel
theorem dX11_flush_6 : decode cX11_flush 6 = .ok (.aload_n 2, 1) := by decide +kernel
theorem dX11_flush_7 : decode cX11_flush 7 = .ok (.ifnonnull 7, 3) := by decide +kernel
theorem dX11_flush_10 : decode cX11_flush 10 = .ok (.iconst (-1), 1) := by decide +kernel
theorem dX11_flush_11 : decode cX11_flush 11 = .ok (.goto 11, 3) := by decide +kernel
theorem dX11_flush_14 : decode cX11_flush 14 = .ok (.aload_n 0, 1) := by decide +kernel
theorem dX11_flush_15 : decode cX11_flush 15 = .ok (.getfield 79, 3) := by decide +kernel
theorem dX11_flush_18 : decode cX11_flush 18 = .ok (.aload_n 2, 1) := by decide +kernel
theorem dX11_flush_19 : decode cX11_flush 19 = .ok (.invokevirtual 171, 3) := by decide +kernel
theorem dX11_flush_22 : decode cX11_flush 22 = .ok (.ireturn, 1) := by decide +kernel
theorem dX11_outcome_0 : decode cX11_outcome 0 = .ok (.iload_n 1, 1) := by decide +kernel
theorem dX11_outcome_1 : decode cX11_outcome 1 = .ok (.tableswitch 75 0 4 #[35, 43, 51, 59, 67], 35) := by decide +kernel
theorem dX11_outcome_36 : decode cX11_outcome 36 = .ok (.aload_n 0, 1) := by decide +kernel
theorem dX11_outcome_37 : decode cX11_outcome 37 = .ok (.getfield 79, 3) := by decide +kernel
theorem dX11_outcome_40 : decode cX11_outcome 40 = .ok (.getfield 175, 3) := by decide +kernel
theorem dX11_outcome_43 : decode cX11_outcome 43 = .ok (.ireturn, 1) := by decide +kernel
theorem dX11_outcome_44 : decode cX11_outcome 44 = .ok (.aload_n 0, 1) := by decide +kernel
theorem dX11_outcome_45 : decode cX11_outcome 45 = .ok (.getfield 79, 3) := by decide +kernel
theorem dX11_outcome_48 : decode cX11_outcome 48 = .ok (.getfield 178, 3) := by decide +kernel
theorem dX11_outcome_51 : decode cX11_outcome 51 = .ok (.ireturn, 1) := by decide +kernel
theorem dX11_outcome_52 : decode cX11_outcome 52 = .ok (.aload_n 0, 1) := by decide +kernel
theorem dX11_outcome_53 : decode cX11_outcome 53 = .ok (.getfield 79, 3) := by decide +kernel
theorem dX11_outcome_56 : decode cX11_outcome 56 = .ok (.getfield 181, 3) := by decide +kernel
theorem dX11_outcome_59 : decode cX11_outcome 59 = .ok (.ireturn, 1) := by decide +kernel
theorem dX11_outcome_60 : decode cX11_outcome 60 = .ok (.aload_n 0, 1) := by decide +kernel
theorem dX11_outcome_61 : decode cX11_outcome 61 = .ok (.getfield 79, 3) := by decide +kernel
theorem dX11_outcome_64 : decode cX11_outcome 64 = .ok (.getfield 184, 3) := by decide +kernel
theorem dX11_outcome_67 : decode cX11_outcome 67 = .ok (.ireturn, 1) := by decide +kernel
theorem dX11_outcome_68 : decode cX11_outcome 68 = .ok (.aload_n 0, 1) := by decide +kernel
theorem dX11_outcome_69 : decode cX11_outcome 69 = .ok (.getfield 79, 3) := by decide +kernel
theorem dX11_outcome_72 : decode cX11_outcome 72 = .ok (.getfield 187, 3) := by decide +kernel
theorem dX11_outcome_75 : decode cX11_outcome 75 = .ok (.ireturn, 1) := by decide +kernel
theorem dX11_outcome_76 : decode cX11_outcome 76 = .ok (.iconst (-1), 1) := by decide +kernel
theorem dX11_outcome_77 : decode cX11_outcome 77 = .ok (.ireturn, 1) := by decide +kernel
theorem dX11_write_0 : decode cX11_write 0 = .ok (.aload_n 0, 1) := by decide +kernel
theorem dX11_write_1 : decode cX11_write 1 = .ok (.getfield 79, 3) := by decide +kernel
theorem dX11_write_4 : decode cX11_write 4 = .ok (.iload_n 1, 1) := by decide +kernel
theorem dX11_write_5 : decode cX11_write 5 = .ok (.iload_n 2, 1) := by decide +kernel
theorem dX11_write_6 : decode cX11_write 6 = .ok (.invokevirtual 190, 3) := by decide +kernel
theorem dX11_write_9 : decode cX11_write 9 = .ok (.ireturn, 1) := by decide +kernel
theorem dX11_make_0 : decode cX11_make 0 = .ok (.aload_n 0, 1) := by decide +kernel
theorem dX11_make_1 : decode cX11_make 1 = .ok (.iload_n 1, 1) := by decide +kernel
theorem dX11_make_2 : decode cX11_make 2 = .ok (.invokevirtual 167, 3) := by decide +kernel
theorem dX11_make_5 : decode cX11_make 5 = .ok (.astore_n 3, 1) := by decide +kernel
theorem dX11_make_6 : decode cX11_make 6 = .ok (.aload_n 0, 1) := by decide +kernel
theorem dX11_make_7 : decode cX11_make 7 = .ok (.getfield 53, 3) := by decide +kernel
theorem dX11_make_10 : decode cX11_make 10 = .ok (.getfield 102, 3) := by decide +kernel
theorem dX11_make_13 : decode cX11_make 13 = .ok (.iload_n 2, 1) := by decide +kernel
theorem dX11_make_14 : decode cX11_make 14 = .ok (.invokevirtual 117, 3) := by decide +kernel
theorem dX11_make_17 : decode cX11_make 17 = .ok (.astore 4, 2) := by decide +kernel
theorem dX11_make_19 : decode cX11_make 19 = .ok (.aload_n 3, 1) := by decide +kernel
theorem dX11_make_20 : decode cX11_make 20 = .ok (.ifnull 8, 3) := by decide +kernel
theorem dX11_make_23 : decode cX11_make 23 = .ok (.aload 4, 2) := by decide +kernel
theorem dX11_make_25 : decode cX11_make 25 = .ok (.ifnonnull 5, 3) := by decide +kernel
theorem dX11_make_28 : decode cX11_make 28 = .ok (.iconst (-1), 1) := by decide +kernel
theorem dX11_make_29 : decode cX11_make 29 = .ok (.ireturn, 1) := by decide +kernel
theorem dX11_make_30 : decode cX11_make 30 = .ok (.aload_n 3, 1) := by decide +kernel
theorem dX11_make_31 : decode cX11_make 31 = .ok (.iconst 2, 1) := by decide +kernel
theorem dX11_make_32 : decode cX11_make 32 = .ok (.aload 4, 2) := by decide +kernel
theorem dX11_make_34 : decode cX11_make 34 = .ok (.getfield 126, 3) := by decide +kernel
theorem dX11_make_37 : decode cX11_make 37 = .ok (.aload_n 0, 1) := by decide +kernel
theorem dX11_make_38 : decode cX11_make 38 = .ok (.getfield 61, 3) := by decide +kernel
theorem dX11_make_41 : decode cX11_make 41 = .ok (.aload 4, 2) := by decide +kernel
theorem dX11_make_43 : decode cX11_make 43 = .ok (.getfield 126, 3) := by decide +kernel
theorem dX11_make_46 : decode cX11_make 46 = .ok (.iaload, 1) := by decide +kernel
theorem dX11_make_47 : decode cX11_make 47 = .ok (.iconst 1, 1) := by decide +kernel
theorem dX11_make_48 : decode cX11_make 48 = .ok (.iadd, 1) := by decide +kernel
theorem dX11_make_49 : decode cX11_make 49 = .ok (.invokevirtual 196, 3) := by decide +kernel
theorem dX11_make_52 : decode cX11_make 52 = .ok (.astore 5, 2) := by decide +kernel
theorem dX11_make_54 : decode cX11_make 54 = .ok (.aload 5, 2) := by decide +kernel
theorem dX11_make_56 : decode cX11_make 56 = .ok (.ifnonnull 6, 3) := by decide +kernel
theorem dX11_make_59 : decode cX11_make 59 = .ok (.bipush (-2), 2) := by decide +kernel
theorem dX11_make_61 : decode cX11_make 61 = .ok (.ireturn, 1) := by decide +kernel
theorem dX11_make_62 : decode cX11_make 62 = .ok (.aload_n 0, 1) := by decide +kernel
theorem dX11_make_63 : decode cX11_make 63 = .ok (.getfield 61, 3) := by decide +kernel
theorem dX11_make_66 : decode cX11_make 66 = .ok (.aload 4, 2) := by decide +kernel
theorem dX11_make_68 : decode cX11_make 68 = .ok (.getfield 126, 3) := by decide +kernel
theorem dX11_make_71 : decode cX11_make 71 = .ok (.dup2, 1) := by decide +kernel
theorem dX11_make_72 : decode cX11_make 72 = .ok (.iaload, 1) := by decide +kernel
theorem dX11_make_73 : decode cX11_make 73 = .ok (.iconst 1, 1) := by decide +kernel
theorem dX11_make_74 : decode cX11_make 74 = .ok (.iadd, 1) := by decide +kernel
theorem dX11_make_75 : decode cX11_make 75 = .ok (.iastore, 1) := by decide +kernel
theorem dX11_make_76 : decode cX11_make 76 = .ok (.aload 5, 2) := by decide +kernel
theorem dX11_make_78 : decode cX11_make 78 = .ok (.iload_n 2, 1) := by decide +kernel
theorem dX11_make_79 : decode cX11_make 79 = .ok (.putfield 200, 3) := by decide +kernel
theorem dX11_make_82 : decode cX11_make 82 = .ok (.aload 5, 2) := by decide +kernel
theorem dX11_make_84 : decode cX11_make 84 = .ok (.getfield 203, 3) := by decide +kernel
theorem dX11_make_87 : decode cX11_make 87 = .ok (.ireturn, 1) := by decide +kernel
theorem dX11_find_0 : decode cX11_find 0 = .ok (.aload_n 0, 1) := by decide +kernel
theorem dX11_find_1 : decode cX11_find 1 = .ok (.iload_n 1, 1) := by decide +kernel
theorem dX11_find_2 : decode cX11_find 2 = .ok (.invokevirtual 167, 3) := by decide +kernel
theorem dX11_find_5 : decode cX11_find 5 = .ok (.astore 4, 2) := by decide +kernel
theorem dX11_find_7 : decode cX11_find 7 = .ok (.aload_n 0, 1) := by decide +kernel
theorem dX11_find_8 : decode cX11_find 8 = .ok (.getfield 53, 3) := by decide +kernel
theorem dX11_find_11 : decode cX11_find 11 = .ok (.getfield 102, 3) := by decide +kernel
theorem dX11_find_14 : decode cX11_find 14 = .ok (.iload_n 2, 1) := by decide +kernel
theorem dX11_find_15 : decode cX11_find 15 = .ok (.invokevirtual 117, 3) := by decide +kernel
theorem dX11_find_18 : decode cX11_find 18 = .ok (.astore 5, 2) := by decide +kernel
theorem dX11_find_20 : decode cX11_find 20 = .ok (.aload 4, 2) := by decide +kernel
theorem dX11_find_22 : decode cX11_find 22 = .ok (.ifnull 8, 3) := by decide +kernel
theorem dX11_find_25 : decode cX11_find 25 = .ok (.aload 5, 2) := by decide +kernel
theorem dX11_find_27 : decode cX11_find 27 = .ok (.ifnonnull 5, 3) := by decide +kernel
theorem dX11_find_30 : decode cX11_find 30 = .ok (.iconst (-1), 1) := by decide +kernel
theorem dX11_find_31 : decode cX11_find 31 = .ok (.ireturn, 1) := by decide +kernel
theorem dX11_find_32 : decode cX11_find 32 = .ok (.aload 4, 2) := by decide +kernel
theorem dX11_find_34 : decode cX11_find 34 = .ok (.iload_n 2, 1) := by decide +kernel
theorem dX11_find_35 : decode cX11_find 35 = .ok (.aload 5, 2) := by decide +kernel
theorem dX11_find_37 : decode cX11_find 37 = .ok (.getfield 126, 3) := by decide +kernel
theorem dX11_find_40 : decode cX11_find 40 = .ok (.iload_n 3, 1) := by decide +kernel
theorem dX11_find_41 : decode cX11_find 41 = .ok (.invokevirtual 206, 3) := by decide +kernel
theorem dX11_find_44 : decode cX11_find 44 = .ok (.ireturn, 1) := by decide +kernel
theorem dX11_object_0 : decode cX11_object 0 = .ok (.aload_n 0, 1) := by decide +kernel
theorem dX11_object_1 : decode cX11_object 1 = .ok (.iload_n 1, 1) := by decide +kernel
theorem dX11_object_2 : decode cX11_object 2 = .ok (.invokevirtual 210, 3) := by decide +kernel
theorem dX11_object_5 : decode cX11_object 5 = .ok (.astore_n 3, 1) := by decide +kernel
theorem dX11_object_6 : decode cX11_object 6 = .ok (.aload_n 3, 1) := by decide +kernel
theorem dX11_object_7 : decode cX11_object 7 = .ok (.ifnull 12, 3) := by decide +kernel
theorem dX11_object_10 : decode cX11_object 10 = .ok (.iload_n 2, 1) := by decide +kernel
theorem dX11_object_11 : decode cX11_object 11 = .ok (.ifCond .lt 8, 3) := by decide +kernel
theorem dX11_object_14 : decode cX11_object 14 = .ok (.iload_n 2, 1) := by decide +kernel
theorem dX11_object_15 : decode cX11_object 15 = .ok (.iconst 3, 1) := by decide +kernel
theorem dX11_object_16 : decode cX11_object 16 = .ok (.if_icmp .le 5, 3) := by decide +kernel
theorem dX11_object_19 : decode cX11_object 19 = .ok (.iconst (-1), 1) := by decide +kernel
theorem dX11_object_20 : decode cX11_object 20 = .ok (.ireturn, 1) := by decide +kernel
theorem dX11_object_21 : decode cX11_object 21 = .ok (.iload_n 2, 1) := by decide +kernel
theorem dX11_object_22 : decode cX11_object 22 = .ok (.ifCond .ne 8, 3) := by decide +kernel
theorem dX11_object_25 : decode cX11_object 25 = .ok (.aload_n 3, 1) := by decide +kernel
theorem dX11_object_26 : decode cX11_object 26 = .ok (.getfield 214, 3) := by decide +kernel
theorem dX11_object_29 : decode cX11_object 29 = .ok (.ireturn, 1) := by decide +kernel
theorem dX11_object_30 : decode cX11_object 30 = .ok (.iload_n 2, 1) := by decide +kernel
theorem dX11_object_31 : decode cX11_object 31 = .ok (.iconst 1, 1) := by decide +kernel
theorem dX11_object_32 : decode cX11_object 32 = .ok (.if_icmp .ne 8, 3) := by decide +kernel
theorem dX11_object_35 : decode cX11_object 35 = .ok (.aload_n 3, 1) := by decide +kernel
theorem dX11_object_36 : decode cX11_object 36 = .ok (.getfield 217, 3) := by decide +kernel
theorem dX11_object_39 : decode cX11_object 39 = .ok (.ireturn, 1) := by decide +kernel
theorem dX11_object_40 : decode cX11_object 40 = .ok (.aload_n 0, 1) := by decide +kernel
theorem dX11_object_41 : decode cX11_object 41 = .ok (.getfield 67, 3) := by decide +kernel
theorem dX11_object_44 : decode cX11_object 44 = .ok (.iload_n 1, 1) := by decide +kernel
theorem dX11_object_45 : decode cX11_object 45 = .ok (.bipush 100, 2) := by decide +kernel
theorem dX11_object_47 : decode cX11_object 47 = .ok (.idiv, 1) := by decide +kernel
theorem dX11_object_48 : decode cX11_object 48 = .ok (.aaload, 1) := by decide +kernel
theorem dX11_object_49 : decode cX11_object 49 = .ok (.aload_n 3, 1) := by decide +kernel
theorem dX11_object_50 : decode cX11_object 50 = .ok (.invokevirtual 220, 3) := by decide +kernel
theorem dX11_object_53 : decode cX11_object 53 = .ok (.aload_n 3, 1) := by decide +kernel
theorem dX11_object_54 : decode cX11_object 54 = .ok (.getfield 214, 3) := by decide +kernel
theorem dX11_object_57 : decode cX11_object 57 = .ok (.iconst 4, 1) := by decide +kernel
theorem dX11_object_58 : decode cX11_object 58 = .ok (.if_icmp .ne 5, 3) := by decide +kernel
theorem dX11_object_61 : decode cX11_object 61 = .ok (.iconst (-1), 1) := by decide +kernel
theorem dX11_object_62 : decode cX11_object 62 = .ok (.ireturn, 1) := by decide +kernel
theorem dX11_object_63 : decode cX11_object 63 = .ok (.iload_n 2, 1) := by decide +kernel
theorem dX11_object_64 : decode cX11_object 64 = .ok (.iconst 2, 1) := by decide +kernel
theorem dX11_object_65 : decode cX11_object 65 = .ok (.if_icmp .ne 10, 3) := by decide +kernel
theorem dX11_object_68 : decode cX11_object 68 = .ok (.aload_n 3, 1) := by decide +kernel
theorem dX11_object_69 : decode cX11_object 69 = .ok (.getfield 200, 3) := by decide +kernel
theorem dX11_object_72 : decode cX11_object 72 = .ok (.goto 7, 3) := by decide +kernel
theorem dX11_object_75 : decode cX11_object 75 = .ok (.aload_n 3, 1) := by decide +kernel
theorem dX11_object_76 : decode cX11_object 76 = .ok (.getfield 224, 3) := by decide +kernel
theorem dX11_object_79 : decode cX11_object 79 = .ok (.ireturn, 1) := by decide +kernel
theorem dX11_value_0 : decode cX11_value 0 = .ok (.aload_n 0, 1) := by decide +kernel
theorem dX11_value_1 : decode cX11_value 1 = .ok (.iload_n 1, 1) := by decide +kernel
theorem dX11_value_2 : decode cX11_value 2 = .ok (.invokevirtual 227, 3) := by decide +kernel
theorem dX11_value_5 : decode cX11_value 5 = .ok (.astore_n 3, 1) := by decide +kernel
theorem dX11_value_6 : decode cX11_value 6 = .ok (.aload_n 0, 1) := by decide +kernel
theorem dX11_value_7 : decode cX11_value 7 = .ok (.aload_n 3, 1) := by decide +kernel
theorem dX11_value_8 : decode cX11_value 8 = .ok (.iload_n 2, 1) := by decide +kernel
theorem dX11_value_9 : decode cX11_value 9 = .ok (.invokevirtual 230, 3) := by decide +kernel
theorem dX11_value_12 : decode cX11_value 12 = .ok (.astore 4, 2) := by decide +kernel
theorem dX11_value_14 : decode cX11_value 14 = .ok (.aload_n 3, 1) := by decide +kernel
theorem dX11_value_15 : decode cX11_value 15 = .ok (.ifnull 17, 3) := by decide +kernel
theorem dX11_value_18 : decode cX11_value 18 = .ok (.aload 4, 2) := by decide +kernel
theorem dX11_value_20 : decode cX11_value 20 = .ok (.ifnull 12, 3) := by decide +kernel
theorem dX11_value_23 : decode cX11_value 23 = .ok (.aload 4, 2) := by decide +kernel
theorem dX11_value_25 : decode cX11_value 25 = .ok (.getfield 139, 3) := by decide +kernel
theorem dX11_value_28 : decode cX11_value 28 = .ok (.iconst 5, 1) := by decide +kernel
theorem dX11_value_29 : decode cX11_value 29 = .ok (.if_icmp .ne 7, 3) := by decide +kernel
theorem dX11_value_32 : decode cX11_value 32 = .ok (.ldc2_w 236, 3) := by decide +kernel
theorem dX11_value_35 : decode cX11_value 35 = .ok (.lreturn, 1) := by decide +kernel
theorem dX11_value_36 : decode cX11_value 36 = .ok (.aload 4, 2) := by decide +kernel
theorem dX11_value_38 : decode cX11_value 38 = .ok (.getfield 139, 3) := by decide +kernel
theorem dX11_value_41 : decode cX11_value 41 = .ok (.iconst 4, 1) := by decide +kernel
theorem dX11_value_42 : decode cX11_value 42 = .ok (.if_icmp .eq 11, 3) := by decide +kernel
theorem dX11_value_45 : decode cX11_value 45 = .ok (.aload_n 3, 1) := by decide +kernel
theorem dX11_value_46 : decode cX11_value 46 = .ok (.getfield 238, 3) := by decide +kernel
theorem dX11_value_49 : decode cX11_value 49 = .ok (.iload_n 2, 1) := by decide +kernel
theorem dX11_value_50 : decode cX11_value 50 = .ok (.iaload, 1) := by decide +kernel
theorem dX11_value_51 : decode cX11_value 51 = .ok (.i2l, 1) := by decide +kernel
theorem dX11_value_52 : decode cX11_value 52 = .ok (.lreturn, 1) := by decide +kernel
theorem dX11_value_53 : decode cX11_value 53 = .ok (.aload_n 3, 1) := by decide +kernel
theorem dX11_value_54 : decode cX11_value 54 = .ok (.getfield 238, 3) := by decide +kernel
theorem dX11_value_57 : decode cX11_value 57 = .ok (.iload_n 2, 1) := by decide +kernel
theorem dX11_value_58 : decode cX11_value 58 = .ok (.iaload, 1) := by decide +kernel
theorem dX11_value_59 : decode cX11_value 59 = .ok (.ifCond .ne 7, 3) := by decide +kernel
theorem dX11_value_62 : decode cX11_value 62 = .ok (.ldc2_w 241, 3) := by decide +kernel
theorem dX11_value_65 : decode cX11_value 65 = .ok (.lreturn, 1) := by decide +kernel
theorem dX11_value_66 : decode cX11_value 66 = .ok (.aload_n 0, 1) := by decide +kernel
theorem dX11_value_67 : decode cX11_value 67 = .ok (.getfield 67, 3) := by decide +kernel
theorem dX11_value_70 : decode cX11_value 70 = .ok (.iload_n 1, 1) := by decide +kernel
theorem dX11_value_71 : decode cX11_value 71 = .ok (.bipush 100, 2) := by decide +kernel
theorem dX11_value_73 : decode cX11_value 73 = .ok (.idiv, 1) := by decide +kernel
theorem dX11_value_74 : decode cX11_value 74 = .ok (.aaload, 1) := by decide +kernel
theorem dX11_value_75 : decode cX11_value 75 = .ok (.aload_n 0, 1) := by decide +kernel
theorem dX11_value_76 : decode cX11_value 76 = .ok (.getfield 53, 3) := by decide +kernel
theorem dX11_value_79 : decode cX11_value 79 = .ok (.getfield 102, 3) := by decide +kernel
theorem dX11_value_82 : decode cX11_value 82 = .ok (.aload 4, 2) := by decide +kernel
theorem dX11_value_84 : decode cX11_value 84 = .ok (.getfield 148, 3) := by decide +kernel
theorem dX11_value_87 : decode cX11_value 87 = .ok (.invokevirtual 243, 3) := by decide +kernel
theorem dX11_value_90 : decode cX11_value 90 = .ok (.aload_n 3, 1) := by decide +kernel
theorem dX11_value_91 : decode cX11_value 91 = .ok (.getfield 238, 3) := by decide +kernel
theorem dX11_value_94 : decode cX11_value 94 = .ok (.iload_n 2, 1) := by decide +kernel
theorem dX11_value_95 : decode cX11_value 95 = .ok (.iaload, 1) := by decide +kernel
theorem dX11_value_96 : decode cX11_value 96 = .ok (.invokevirtual 247, 3) := by decide +kernel
theorem dX11_value_99 : decode cX11_value 99 = .ok (.i2l, 1) := by decide +kernel
theorem dX11_value_100 : decode cX11_value 100 = .ok (.lreturn, 1) := by decide +kernel
theorem dX11_put_0 : decode cX11_put 0 = .ok (.aload_n 0, 1) := by decide +kernel
theorem dX11_put_1 : decode cX11_put 1 = .ok (.iload_n 1, 1) := by decide +kernel
theorem dX11_put_2 : decode cX11_put 2 = .ok (.invokevirtual 227, 3) := by decide +kernel
theorem dX11_put_5 : decode cX11_put 5 = .ok (.astore 4, 2) := by decide +kernel
theorem dX11_put_7 : decode cX11_put 7 = .ok (.aload_n 0, 1) := by decide +kernel
theorem dX11_put_8 : decode cX11_put 8 = .ok (.aload 4, 2) := by decide +kernel
theorem dX11_put_10 : decode cX11_put 10 = .ok (.iload_n 2, 1) := by decide +kernel
theorem dX11_put_11 : decode cX11_put 11 = .ok (.invokevirtual 230, 3) := by decide +kernel
theorem dX11_put_14 : decode cX11_put 14 = .ok (.astore 5, 2) := by decide +kernel
theorem dX11_put_16 : decode cX11_put 16 = .ok (.aload 4, 2) := by decide +kernel
theorem dX11_put_18 : decode cX11_put 18 = .ok (.ifnull 17, 3) := by decide +kernel
theorem dX11_put_21 : decode cX11_put 21 = .ok (.aload 5, 2) := by decide +kernel
theorem dX11_put_23 : decode cX11_put 23 = .ok (.ifnull 12, 3) := by decide +kernel
theorem dX11_put_26 : decode cX11_put 26 = .ok (.aload 5, 2) := by decide +kernel
theorem dX11_put_28 : decode cX11_put 28 = .ok (.iload_n 3, 1) := by decide +kernel
theorem dX11_put_29 : decode cX11_put 29 = .ok (.invokevirtual 250, 3) := by decide +kernel
theorem dX11_put_32 : decode cX11_put 32 = .ok (.ifCond .ne 5, 3) := by decide +kernel
theorem dX11_put_35 : decode cX11_put 35 = .ok (.iconst 0, 1) := by decide +kernel
theorem dX11_put_36 : decode cX11_put 36 = .ok (.ireturn, 1) := by decide +kernel
theorem dX11_put_37 : decode cX11_put 37 = .ok (.aload 4, 2) := by decide +kernel
theorem dX11_put_39 : decode cX11_put 39 = .ok (.getfield 238, 3) := by decide +kernel
theorem dX11_put_42 : decode cX11_put 42 = .ok (.iload_n 2, 1) := by decide +kernel
theorem dX11_put_43 : decode cX11_put 43 = .ok (.iload_n 3, 1) := by decide +kernel
theorem dX11_put_44 : decode cX11_put 44 = .ok (.iastore, 1) := by decide +kernel
theorem dX11_put_45 : decode cX11_put 45 = .ok (.iconst 1, 1) := by decide +kernel
theorem dX11_put_46 : decode cX11_put 46 = .ok (.ireturn, 1) := by decide +kernel
theorem dX11_link_0 : decode cX11_link 0 = .ok (.aload_n 0, 1) := by decide +kernel
theorem dX11_link_1 : decode cX11_link 1 = .ok (.iload_n 1, 1) := by decide +kernel
theorem dX11_link_2 : decode cX11_link 2 = .ok (.invokevirtual 227, 3) := by decide +kernel
theorem dX11_link_5 : decode cX11_link 5 = .ok (.astore 4, 2) := by decide +kernel
theorem dX11_link_7 : decode cX11_link 7 = .ok (.aload_n 0, 1) := by decide +kernel
theorem dX11_link_8 : decode cX11_link 8 = .ok (.aload 4, 2) := by decide +kernel
theorem dX11_link_10 : decode cX11_link 10 = .ok (.iload_n 2, 1) := by decide +kernel
theorem dX11_link_11 : decode cX11_link 11 = .ok (.invokevirtual 230, 3) := by decide +kernel
theorem dX11_link_14 : decode cX11_link 14 = .ok (.astore 5, 2) := by decide +kernel
theorem dX11_link_16 : decode cX11_link 16 = .ok (.aload 4, 2) := by decide +kernel
theorem dX11_link_18 : decode cX11_link 18 = .ok (.ifnull 17, 3) := by decide +kernel
theorem dX11_link_21 : decode cX11_link 21 = .ok (.aload 5, 2) := by decide +kernel
theorem dX11_link_23 : decode cX11_link 23 = .ok (.ifnull 12, 3) := by decide +kernel
theorem dX11_link_26 : decode cX11_link 26 = .ok (.aload 5, 2) := by decide +kernel
theorem dX11_link_28 : decode cX11_link 28 = .ok (.getfield 139, 3) := by decide +kernel
theorem dX11_link_31 : decode cX11_link 31 = .ok (.iconst 4, 1) := by decide +kernel
theorem dX11_link_32 : decode cX11_link 32 = .ok (.if_icmp .eq 5, 3) := by decide +kernel
theorem dX11_link_35 : decode cX11_link 35 = .ok (.iconst 0, 1) := by decide +kernel
theorem dX11_link_36 : decode cX11_link 36 = .ok (.ireturn, 1) := by decide +kernel
theorem dX11_link_37 : decode cX11_link 37 = .ok (.iload_n 3, 1) := by decide +kernel
theorem dX11_link_38 : decode cX11_link 38 = .ok (.iconst (-1), 1) := by decide +kernel
theorem dX11_link_39 : decode cX11_link 39 = .ok (.if_icmp .ne 13, 3) := by decide +kernel
theorem dX11_link_42 : decode cX11_link 42 = .ok (.aload 4, 2) := by decide +kernel
theorem dX11_link_44 : decode cX11_link 44 = .ok (.getfield 238, 3) := by decide +kernel
theorem dX11_link_47 : decode cX11_link 47 = .ok (.iload_n 2, 1) := by decide +kernel
theorem dX11_link_48 : decode cX11_link 48 = .ok (.iconst 0, 1) := by decide +kernel
theorem dX11_link_49 : decode cX11_link 49 = .ok (.iastore, 1) := by decide +kernel
theorem dX11_link_50 : decode cX11_link 50 = .ok (.iconst 1, 1) := by decide +kernel
theorem dX11_link_51 : decode cX11_link 51 = .ok (.ireturn, 1) := by decide +kernel
theorem dX11_link_52 : decode cX11_link 52 = .ok (.iload_n 3, 1) := by decide +kernel
theorem dX11_link_53 : decode cX11_link 53 = .ok (.ifCond .lt 14, 3) := by decide +kernel
theorem dX11_link_56 : decode cX11_link 56 = .ok (.iload_n 3, 1) := by decide +kernel
theorem dX11_link_57 : decode cX11_link 57 = .ok (.bipush 100, 2) := by decide +kernel
theorem dX11_link_59 : decode cX11_link 59 = .ok (.idiv, 1) := by decide +kernel
theorem dX11_link_60 : decode cX11_link 60 = .ok (.iload_n 1, 1) := by decide +kernel
theorem dX11_link_61 : decode cX11_link 61 = .ok (.bipush 100, 2) := by decide +kernel
theorem dX11_link_63 : decode cX11_link 63 = .ok (.idiv, 1) := by decide +kernel
theorem dX11_link_64 : decode cX11_link 64 = .ok (.if_icmp .eq 5, 3) := by decide +kernel
theorem dX11_link_67 : decode cX11_link 67 = .ok (.iconst 0, 1) := by decide +kernel
theorem dX11_link_68 : decode cX11_link 68 = .ok (.ireturn, 1) := by decide +kernel
theorem dX11_link_69 : decode cX11_link 69 = .ok (.aload_n 0, 1) := by decide +kernel
theorem dX11_link_70 : decode cX11_link 70 = .ok (.iload_n 3, 1) := by decide +kernel
theorem dX11_link_71 : decode cX11_link 71 = .ok (.invokevirtual 227, 3) := by decide +kernel
theorem dX11_link_74 : decode cX11_link 74 = .ok (.astore 6, 2) := by decide +kernel
theorem dX11_link_76 : decode cX11_link 76 = .ok (.aload 6, 2) := by decide +kernel
theorem dX11_link_78 : decode cX11_link 78 = .ok (.ifnull 26, 3) := by decide +kernel
theorem dX11_link_81 : decode cX11_link 81 = .ok (.aload_n 0, 1) := by decide +kernel
theorem dX11_link_82 : decode cX11_link 82 = .ok (.getfield 53, 3) := by decide +kernel
theorem dX11_link_85 : decode cX11_link 85 = .ok (.getfield 102, 3) := by decide +kernel
theorem dX11_link_88 : decode cX11_link 88 = .ok (.aload 6, 2) := by decide +kernel
theorem dX11_link_90 : decode cX11_link 90 = .ok (.getfield 200, 3) := by decide +kernel
theorem dX11_link_93 : decode cX11_link 93 = .ok (.aload 5, 2) := by decide +kernel
theorem dX11_link_95 : decode cX11_link 95 = .ok (.getfield 148, 3) := by decide +kernel
theorem dX11_link_98 : decode cX11_link 98 = .ok (.invokevirtual 254, 3) := by decide +kernel
theorem dX11_link_101 : decode cX11_link 101 = .ok (.ifCond .ne 5, 3) := by decide +kernel
theorem dX11_link_104 : decode cX11_link 104 = .ok (.iconst 0, 1) := by decide +kernel
theorem dX11_link_105 : decode cX11_link 105 = .ok (.ireturn, 1) := by decide +kernel
theorem dX11_link_106 : decode cX11_link 106 = .ok (.aload 4, 2) := by decide +kernel
theorem dX11_link_108 : decode cX11_link 108 = .ok (.getfield 238, 3) := by decide +kernel
theorem dX11_link_111 : decode cX11_link 111 = .ok (.iload_n 2, 1) := by decide +kernel
theorem dX11_link_112 : decode cX11_link 112 = .ok (.aload 6, 2) := by decide +kernel
theorem dX11_link_114 : decode cX11_link 114 = .ok (.getfield 217, 3) := by decide +kernel
theorem dX11_link_117 : decode cX11_link 117 = .ok (.iastore, 1) := by decide +kernel
theorem dX11_link_118 : decode cX11_link 118 = .ok (.iconst 1, 1) := by decide +kernel
theorem dX11_link_119 : decode cX11_link 119 = .ok (.ireturn, 1) := by decide +kernel
theorem dX11_size_0 : decode cX11_size 0 = .ok (.aload_n 0, 1) := by decide +kernel
theorem dX11_size_1 : decode cX11_size 1 = .ok (.iload_n 1, 1) := by decide +kernel
theorem dX11_size_2 : decode cX11_size 2 = .ok (.invokevirtual 227, 3) := by decide +kernel
theorem dX11_size_5 : decode cX11_size 5 = .ok (.astore_n 3, 1) := by decide +kernel
theorem dX11_size_6 : decode cX11_size 6 = .ok (.aload_n 0, 1) := by decide +kernel
theorem dX11_size_7 : decode cX11_size 7 = .ok (.aload_n 3, 1) := by decide +kernel
theorem dX11_size_8 : decode cX11_size 8 = .ok (.iload_n 2, 1) := by decide +kernel
theorem dX11_size_9 : decode cX11_size 9 = .ok (.invokevirtual 230, 3) := by decide +kernel
theorem dX11_size_12 : decode cX11_size 12 = .ok (.astore 4, 2) := by decide +kernel
theorem dX11_size_14 : decode cX11_size 14 = .ok (.aload_n 3, 1) := by decide +kernel
theorem dX11_size_15 : decode cX11_size 15 = .ok (.ifnull 17, 3) := by decide +kernel
theorem dX11_size_18 : decode cX11_size 18 = .ok (.aload 4, 2) := by decide +kernel
theorem dX11_size_20 : decode cX11_size 20 = .ok (.ifnull 12, 3) := by decide +kernel
theorem dX11_size_23 : decode cX11_size 23 = .ok (.aload 4, 2) := by decide +kernel
theorem dX11_size_25 : decode cX11_size 25 = .ok (.getfield 139, 3) := by decide +kernel
theorem dX11_size_28 : decode cX11_size 28 = .ok (.iconst 5, 1) := by decide +kernel
theorem dX11_size_29 : decode cX11_size 29 = .ok (.if_icmp .eq 5, 3) := by decide +kernel
theorem dX11_size_32 : decode cX11_size 32 = .ok (.iconst (-1), 1) := by decide +kernel
theorem dX11_size_33 : decode cX11_size 33 = .ok (.ireturn, 1) := by decide +kernel
theorem dX11_size_34 : decode cX11_size 34 = .ok (.aload_n 0, 1) := by decide +kernel
theorem dX11_size_35 : decode cX11_size 35 = .ok (.getfield 67, 3) := by decide +kernel
theorem dX11_size_38 : decode cX11_size 38 = .ok (.iload_n 1, 1) := by decide +kernel
theorem dX11_size_39 : decode cX11_size 39 = .ok (.bipush 100, 2) := by decide +kernel
theorem dX11_size_41 : decode cX11_size 41 = .ok (.idiv, 1) := by decide +kernel
theorem dX11_size_42 : decode cX11_size 42 = .ok (.aaload, 1) := by decide +kernel
theorem dX11_size_43 : decode cX11_size 43 = .ok (.aload_n 3, 1) := by decide +kernel
theorem dX11_size_44 : decode cX11_size 44 = .ok (.aload 4, 2) := by decide +kernel
theorem dX11_size_46 : decode cX11_size 46 = .ok (.invokevirtual 258, 3) := by decide +kernel
theorem dX11_size_49 : decode cX11_size 49 = .ok (.ireturn, 1) := by decide +kernel
theorem dX11_item_0 : decode cX11_item 0 = .ok (.aload_n 0, 1) := by decide +kernel
theorem dX11_item_1 : decode cX11_item 1 = .ok (.iload_n 1, 1) := by decide +kernel
theorem dX11_item_2 : decode cX11_item 2 = .ok (.iload_n 2, 1) := by decide +kernel
theorem dX11_item_3 : decode cX11_item 3 = .ok (.invokevirtual 262, 3) := by decide +kernel
theorem dX11_item_6 : decode cX11_item 6 = .ok (.istore 4, 2) := by decide +kernel
theorem dX11_item_8 : decode cX11_item 8 = .ok (.aload_n 0, 1) := by decide +kernel
theorem dX11_item_9 : decode cX11_item 9 = .ok (.iload_n 1, 1) := by decide +kernel
theorem dX11_item_10 : decode cX11_item 10 = .ok (.invokevirtual 210, 3) := by decide +kernel
theorem dX11_item_13 : decode cX11_item 13 = .ok (.astore 5, 2) := by decide +kernel
theorem dX11_item_15 : decode cX11_item 15 = .ok (.aload_n 0, 1) := by decide +kernel
theorem dX11_item_16 : decode cX11_item 16 = .ok (.aload 5, 2) := by decide +kernel
theorem dX11_item_18 : decode cX11_item 18 = .ok (.iload_n 2, 1) := by decide +kernel
theorem dX11_item_19 : decode cX11_item 19 = .ok (.invokevirtual 230, 3) := by decide +kernel
theorem dX11_item_22 : decode cX11_item 22 = .ok (.astore 6, 2) := by decide +kernel
theorem dX11_item_24 : decode cX11_item 24 = .ok (.iload_n 3, 1) := by decide +kernel
theorem dX11_item_25 : decode cX11_item 25 = .ok (.ifCond .lt 14, 3) := by decide +kernel
theorem dX11_item_28 : decode cX11_item 28 = .ok (.iload_n 3, 1) := by decide +kernel
theorem dX11_item_29 : decode cX11_item 29 = .ok (.iload 4, 2) := by decide +kernel
theorem dX11_item_31 : decode cX11_item 31 = .ok (.if_icmp .ge 8, 3) := by decide +kernel
theorem dX11_item_34 : decode cX11_item 34 = .ok (.aload 6, 2) := by decide +kernel
theorem dX11_item_36 : decode cX11_item 36 = .ok (.ifnonnull 5, 3) := by decide +kernel
theorem dX11_item_39 : decode cX11_item 39 = .ok (.iconst (-1), 1) := by decide +kernel
theorem dX11_item_40 : decode cX11_item 40 = .ok (.ireturn, 1) := by decide +kernel
theorem dX11_item_41 : decode cX11_item 41 = .ok (.aload_n 0, 1) := by decide +kernel
theorem dX11_item_42 : decode cX11_item 42 = .ok (.getfield 67, 3) := by decide +kernel
theorem dX11_item_45 : decode cX11_item 45 = .ok (.iload_n 1, 1) := by decide +kernel
theorem dX11_item_46 : decode cX11_item 46 = .ok (.bipush 100, 2) := by decide +kernel
theorem dX11_item_48 : decode cX11_item 48 = .ok (.idiv, 1) := by decide +kernel
theorem dX11_item_49 : decode cX11_item 49 = .ok (.aaload, 1) := by decide +kernel
theorem dX11_item_50 : decode cX11_item 50 = .ok (.astore 7, 2) := by decide +kernel
theorem dX11_item_52 : decode cX11_item 52 = .ok (.aload 7, 2) := by decide +kernel
theorem dX11_item_54 : decode cX11_item 54 = .ok (.aload_n 0, 1) := by decide +kernel
theorem dX11_item_55 : decode cX11_item 55 = .ok (.getfield 53, 3) := by decide +kernel
theorem dX11_item_58 : decode cX11_item 58 = .ok (.getfield 102, 3) := by decide +kernel
theorem dX11_item_61 : decode cX11_item 61 = .ok (.aload 6, 2) := by decide +kernel
theorem dX11_item_63 : decode cX11_item 63 = .ok (.getfield 148, 3) := by decide +kernel
theorem dX11_item_66 : decode cX11_item 66 = .ok (.invokevirtual 243, 3) := by decide +kernel
theorem dX11_item_69 : decode cX11_item 69 = .ok (.aload 7, 2) := by decide +kernel
theorem dX11_item_71 : decode cX11_item 71 = .ok (.getfield 265, 3) := by decide +kernel
theorem dX11_item_74 : decode cX11_item 74 = .ok (.iload_n 3, 1) := by decide +kernel
theorem dX11_item_75 : decode cX11_item 75 = .ok (.iaload, 1) := by decide +kernel
theorem dX11_item_76 : decode cX11_item 76 = .ok (.invokevirtual 247, 3) := by decide +kernel
theorem dX11_item_79 : decode cX11_item 79 = .ok (.ireturn, 1) := by decide +kernel
theorem dX11_drop_0 : decode cX11_drop 0 = .ok (.aload_n 0, 1) := by decide +kernel
theorem dX11_drop_1 : decode cX11_drop 1 = .ok (.iload_n 1, 1) := by decide +kernel
theorem dX11_drop_2 : decode cX11_drop 2 = .ok (.invokevirtual 227, 3) := by decide +kernel
theorem dX11_drop_5 : decode cX11_drop 5 = .ok (.astore_n 2, 1) := by decide +kernel
theorem dX11_drop_6 : decode cX11_drop 6 = .ok (.aload_n 2, 1) := by decide +kernel
theorem dX11_drop_7 : decode cX11_drop 7 = .ok (.ifnonnull 7, 3) := by decide +kernel
theorem dX11_drop_10 : decode cX11_drop 10 = .ok (.iconst (-1), 1) := by decide +kernel
theorem dX11_drop_11 : decode cX11_drop 11 = .ok (.goto 16, 3) := by decide +kernel
theorem dX11_drop_14 : decode cX11_drop 14 = .ok (.aload_n 0, 1) := by decide +kernel
theorem dX11_drop_15 : decode cX11_drop 15 = .ok (.getfield 67, 3) := by decide +kernel
theorem dX11_drop_18 : decode cX11_drop 18 = .ok (.iload_n 1, 1) := by decide +kernel
theorem dX11_drop_19 : decode cX11_drop 19 = .ok (.bipush 100, 2) := by decide +kernel
theorem dX11_drop_21 : decode cX11_drop 21 = .ok (.idiv, 1) := by decide +kernel
theorem dX11_drop_22 : decode cX11_drop 22 = .ok (.aaload, 1) := by decide +kernel
theorem dX11_drop_23 : decode cX11_drop 23 = .ok (.aload_n 2, 1) := by decide +kernel
theorem dX11_drop_24 : decode cX11_drop 24 = .ok (.invokevirtual 268, 3) := by decide +kernel
theorem dX11_drop_27 : decode cX11_drop 27 = .ok (.ireturn, 1) := by decide +kernel
theorem dX11_loads_0 : decode cX11_loads 0 = .ok (.aload_n 0, 1) := by decide +kernel
theorem dX11_loads_1 : decode cX11_loads 1 = .ok (.iload_n 1, 1) := by decide +kernel
theorem dX11_loads_2 : decode cX11_loads 2 = .ok (.invokevirtual 167, 3) := by decide +kernel
theorem dX11_loads_5 : decode cX11_loads 5 = .ok (.astore_n 2, 1) := by decide +kernel
theorem dX11_loads_6 : decode cX11_loads 6 = .ok (.aload_n 2, 1) := by decide +kernel
theorem dX11_loads_7 : decode cX11_loads 7 = .ok (.ifnonnull 7, 3) := by decide +kernel
theorem dX11_loads_10 : decode cX11_loads 10 = .ok (.iconst (-1), 1) := by decide +kernel
theorem dX11_loads_11 : decode cX11_loads 11 = .ok (.goto 7, 3) := by decide +kernel
theorem dX11_loads_14 : decode cX11_loads 14 = .ok (.aload_n 2, 1) := by decide +kernel
theorem dX11_loads_15 : decode cX11_loads 15 = .ok (.getfield 272, 3) := by decide +kernel
theorem dX11_loads_18 : decode cX11_loads 18 = .ok (.ireturn, 1) := by decide +kernel
theorem dX11_other_0 : decode cX11_other 0 = .ok (.aload_n 0, 1) := by decide +kernel
theorem dX11_other_1 : decode cX11_other 1 = .ok (.getfield 53, 3) := by decide +kernel
theorem dX11_other_4 : decode cX11_other 4 = .ok (.aload_n 0, 1) := by decide +kernel
theorem dX11_other_5 : decode cX11_other 5 = .ok (.getfield 53, 3) := by decide +kernel
theorem dX11_other_8 : decode cX11_other 8 = .ok (.getfield 102, 3) := by decide +kernel
theorem dX11_other_11 : decode cX11_other 11 = .ok (.iload_n 1, 1) := by decide +kernel
theorem dX11_other_12 : decode cX11_other 12 = .ok (.invokevirtual 243, 3) := by decide +kernel
theorem dX11_other_15 : decode cX11_other 15 = .ok (.iload_n 2, 1) := by decide +kernel
theorem dX11_other_16 : decode cX11_other 16 = .ok (.invokevirtual 275, 3) := by decide +kernel
theorem dX11_other_19 : decode cX11_other 19 = .ok (.istore 5, 2) := by decide +kernel
theorem dX11_other_21 : decode cX11_other 21 = .ok (.iload 5, 2) := by decide +kernel
theorem dX11_other_23 : decode cX11_other 23 = .ok (.iconst (-1), 1) := by decide +kernel
theorem dX11_other_24 : decode cX11_other 24 = .ok (.if_icmp .ne 5, 3) := by decide +kernel
theorem dX11_other_27 : decode cX11_other 27 = .ok (.iconst 0, 1) := by decide +kernel
theorem dX11_other_28 : decode cX11_other 28 = .ok (.ireturn, 1) := by decide +kernel
theorem dX11_other_29 : decode cX11_other 29 = .ok (.aload_n 0, 1) := by decide +kernel
theorem dX11_other_30 : decode cX11_other 30 = .ok (.getfield 53, 3) := by decide +kernel
theorem dX11_other_33 : decode cX11_other 33 = .ok (.getfield 278, 3) := by decide +kernel
theorem dX11_other_36 : decode cX11_other 36 = .ok (.iload 5, 2) := by decide +kernel
theorem dX11_other_38 : decode cX11_other 38 = .ok (.iaload, 1) := by decide +kernel
theorem dX11_other_39 : decode cX11_other 39 = .ok (.istore 6, 2) := by decide +kernel
theorem dX11_other_41 : decode cX11_other 41 = .ok (.aload_n 0, 1) := by decide +kernel
theorem dX11_other_42 : decode cX11_other 42 = .ok (.getfield 53, 3) := by decide +kernel
theorem dX11_other_45 : decode cX11_other 45 = .ok (.getfield 102, 3) := by decide +kernel
theorem dX11_other_48 : decode cX11_other 48 = .ok (.iload 6, 2) := by decide +kernel
theorem dX11_other_50 : decode cX11_other 50 = .ok (.iload_n 3, 1) := by decide +kernel
theorem dX11_other_51 : decode cX11_other 51 = .ok (.invokevirtual 135, 3) := by decide +kernel
theorem dX11_other_54 : decode cX11_other 54 = .ok (.astore 7, 2) := by decide +kernel
theorem dX11_other_56 : decode cX11_other 56 = .ok (.aload 7, 2) := by decide +kernel
theorem dX11_other_58 : decode cX11_other 58 = .ok (.ifnull 12, 3) := by decide +kernel
theorem dX11_other_61 : decode cX11_other 61 = .ok (.aload 7, 2) := by decide +kernel
theorem dX11_other_63 : decode cX11_other 63 = .ok (.getfield 139, 3) := by decide +kernel
theorem dX11_other_66 : decode cX11_other 66 = .ok (.iconst 5, 1) := by decide +kernel
theorem dX11_other_67 : decode cX11_other 67 = .ok (.if_icmp .ne 5, 3) := by decide +kernel
theorem dX11_other_70 : decode cX11_other 70 = .ok (.iconst 0, 1) := by decide +kernel
theorem dX11_other_71 : decode cX11_other 71 = .ok (.ireturn, 1) := by decide +kernel
theorem dX11_other_72 : decode cX11_other 72 = .ok (.aload 7, 2) := by decide +kernel
theorem dX11_other_74 : decode cX11_other 74 = .ok (.getfield 139, 3) := by decide +kernel
theorem dX11_other_77 : decode cX11_other 77 = .ok (.iconst 4, 1) := by decide +kernel
theorem dX11_other_78 : decode cX11_other 78 = .ok (.if_icmp .eq 15, 3) := by decide +kernel
theorem dX11_other_81 : decode cX11_other 81 = .ok (.aload 7, 2) := by decide +kernel
theorem dX11_other_83 : decode cX11_other 83 = .ok (.iload 4, 2) := by decide +kernel
theorem dX11_other_85 : decode cX11_other 85 = .ok (.invokevirtual 250, 3) := by decide +kernel
theorem dX11_other_88 : decode cX11_other 88 = .ok (.ifCond .ne 5, 3) := by decide +kernel
theorem dX11_other_91 : decode cX11_other 91 = .ok (.iconst 0, 1) := by decide +kernel
theorem dX11_other_92 : decode cX11_other 92 = .ok (.ireturn, 1) := by decide +kernel
theorem dX11_other_93 : decode cX11_other 93 = .ok (.aload_n 0, 1) := by decide +kernel
theorem dX11_other_94 : decode cX11_other 94 = .ok (.getfield 53, 3) := by decide +kernel
theorem dX11_other_97 : decode cX11_other 97 = .ok (.iload 6, 2) := by decide +kernel
theorem dX11_other_99 : decode cX11_other 99 = .ok (.iload_n 2, 1) := by decide +kernel
theorem dX11_other_100 : decode cX11_other 100 = .ok (.iload_n 3, 1) := by decide +kernel
theorem dX11_other_101 : decode cX11_other 101 = .ok (.iload 4, 2) := by decide +kernel
theorem dX11_other_103 : decode cX11_other 103 = .ok (.invokevirtual 280, 3) := by decide +kernel
theorem dX11_other_106 : decode cX11_other 106 = .ok (.iconst (-1), 1) := by decide +kernel
theorem dX11_other_107 : decode cX11_other 107 = .ok (.if_icmp .eq 5, 3) := by decide +kernel
theorem dX11_other_110 : decode cX11_other 110 = .ok (.iconst 0, 1) := by decide +kernel
theorem dX11_other_111 : decode cX11_other 111 = .ok (.ireturn, 1) := by decide +kernel
theorem dX11_other_112 : decode cX11_other 112 = .ok (.aload_n 0, 1) := by decide +kernel
theorem dX11_other_113 : decode cX11_other 113 = .ok (.getfield 53, 3) := by decide +kernel
theorem dX11_other_116 : decode cX11_other 116 = .ok (.iload 5, 2) := by decide +kernel
theorem dX11_other_118 : decode cX11_other 118 = .ok (.iload_n 3, 1) := by decide +kernel
theorem dX11_other_119 : decode cX11_other 119 = .ok (.iload 4, 2) := by decide +kernel
theorem dX11_other_121 : decode cX11_other 121 = .ok (.invokevirtual 284, 3) := by decide +kernel
theorem dX11_other_124 : decode cX11_other 124 = .ok (.aload_n 0, 1) := by decide +kernel
theorem dX11_other_125 : decode cX11_other 125 = .ok (.getfield 53, 3) := by decide +kernel
theorem dX11_other_128 : decode cX11_other 128 = .ok (.getfield 288, 3) := by decide +kernel
theorem dX11_other_131 : decode cX11_other 131 = .ok (.iload 5, 2) := by decide +kernel
theorem dX11_other_133 : decode cX11_other 133 = .ok (.dup2, 1) := by decide +kernel
theorem dX11_other_134 : decode cX11_other 134 = .ok (.iaload, 1) := by decide +kernel
theorem dX11_other_135 : decode cX11_other 135 = .ok (.iconst 1, 1) := by decide +kernel
theorem dX11_other_136 : decode cX11_other 136 = .ok (.iadd, 1) := by decide +kernel
theorem dX11_other_137 : decode cX11_other 137 = .ok (.iastore, 1) := by decide +kernel
theorem dX11_other_138 : decode cX11_other 138 = .ok (.iconst 1, 1) := by decide +kernel
theorem dX11_other_139 : decode cX11_other 139 = .ok (.ireturn, 1) := by decide +kernel
theorem dX11_cell_0 : decode cX11_cell 0 = .ok (.aload_n 0, 1) := by decide +kernel
theorem dX11_cell_1 : decode cX11_cell 1 = .ok (.getfield 53, 3) := by decide +kernel
theorem dX11_cell_4 : decode cX11_cell 4 = .ok (.getfield 102, 3) := by decide +kernel
theorem dX11_cell_7 : decode cX11_cell 7 = .ok (.iload_n 1, 1) := by decide +kernel
theorem dX11_cell_8 : decode cX11_cell 8 = .ok (.invokevirtual 117, 3) := by decide +kernel
theorem dX11_cell_11 : decode cX11_cell 11 = .ok (.astore 4, 2) := by decide +kernel
theorem dX11_cell_13 : decode cX11_cell 13 = .ok (.aload_n 0, 1) := by decide +kernel
theorem dX11_cell_14 : decode cX11_cell 14 = .ok (.getfield 53, 3) := by decide +kernel
theorem dX11_cell_17 : decode cX11_cell 17 = .ok (.aload_n 0, 1) := by decide +kernel
theorem dX11_cell_18 : decode cX11_cell 18 = .ok (.getfield 53, 3) := by decide +kernel
theorem dX11_cell_21 : decode cX11_cell 21 = .ok (.getfield 102, 3) := by decide +kernel
theorem dX11_cell_24 : decode cX11_cell 24 = .ok (.iload_n 1, 1) := by decide +kernel
theorem dX11_cell_25 : decode cX11_cell 25 = .ok (.invokevirtual 243, 3) := by decide +kernel
theorem dX11_cell_28 : decode cX11_cell 28 = .ok (.iload_n 2, 1) := by decide +kernel
theorem dX11_cell_29 : decode cX11_cell 29 = .ok (.invokevirtual 275, 3) := by decide +kernel
theorem dX11_cell_32 : decode cX11_cell 32 = .ok (.istore 5, 2) := by decide +kernel
theorem dX11_cell_34 : decode cX11_cell 34 = .ok (.aload 4, 2) := by decide +kernel
theorem dX11_cell_36 : decode cX11_cell 36 = .ok (.ifnull 13, 3) := by decide +kernel
theorem dX11_cell_39 : decode cX11_cell 39 = .ok (.iload 5, 2) := by decide +kernel
theorem dX11_cell_41 : decode cX11_cell 41 = .ok (.iconst (-1), 1) := by decide +kernel
theorem dX11_cell_42 : decode cX11_cell 42 = .ok (.if_icmp .eq 7, 3) := by decide +kernel
theorem dX11_cell_45 : decode cX11_cell 45 = .ok (.iload_n 3, 1) := by decide +kernel
theorem dX11_cell_46 : decode cX11_cell 46 = .ok (.ifCond .ge 7, 3) := by decide +kernel
theorem dX11_cell_49 : decode cX11_cell 49 = .ok (.ldc2_w 236, 3) := by decide +kernel
theorem dX11_cell_52 : decode cX11_cell 52 = .ok (.lreturn, 1) := by decide +kernel
theorem dX11_cell_53 : decode cX11_cell 53 = .ok (.aload 4, 2) := by decide +kernel
theorem dX11_cell_55 : decode cX11_cell 55 = .ok (.getfield 129, 3) := by decide +kernel
theorem dX11_cell_58 : decode cX11_cell 58 = .ok (.lookupswitch 50 #[(1, 26), (2, 38)], 26) := by decide +kernel
theorem dX11_cell_84 : decode cX11_cell 84 = .ok (.aload_n 0, 1) := by decide +kernel
theorem dX11_cell_85 : decode cX11_cell 85 = .ok (.getfield 53, 3) := by decide +kernel
theorem dX11_cell_88 : decode cX11_cell 88 = .ok (.iload_n 1, 1) := by decide +kernel
theorem dX11_cell_89 : decode cX11_cell 89 = .ok (.iload 5, 2) := by decide +kernel
theorem dX11_cell_91 : decode cX11_cell 91 = .ok (.iload_n 3, 1) := by decide +kernel
theorem dX11_cell_92 : decode cX11_cell 92 = .ok (.invokevirtual 290, 3) := by decide +kernel
theorem dX11_cell_95 : decode cX11_cell 95 = .ok (.lreturn, 1) := by decide +kernel
theorem dX11_cell_96 : decode cX11_cell 96 = .ok (.aload_n 0, 1) := by decide +kernel
theorem dX11_cell_97 : decode cX11_cell 97 = .ok (.getfield 53, 3) := by decide +kernel
theorem dX11_cell_100 : decode cX11_cell 100 = .ok (.iload_n 1, 1) := by decide +kernel
theorem dX11_cell_101 : decode cX11_cell 101 = .ok (.iload 5, 2) := by decide +kernel
theorem dX11_cell_103 : decode cX11_cell 103 = .ok (.iload_n 3, 1) := by decide +kernel
theorem dX11_cell_104 : decode cX11_cell 104 = .ok (.invokevirtual 294, 3) := by decide +kernel
theorem dX11_cell_107 : decode cX11_cell 107 = .ok (.lreturn, 1) := by decide +kernel
theorem dX11_cell_108 : decode cX11_cell 108 = .ok (.aload_n 0, 1) := by decide +kernel
theorem dX11_cell_109 : decode cX11_cell 109 = .ok (.getfield 53, 3) := by decide +kernel
theorem dX11_cell_112 : decode cX11_cell 112 = .ok (.aload 4, 2) := by decide +kernel
theorem dX11_cell_114 : decode cX11_cell 114 = .ok (.getfield 126, 3) := by decide +kernel
theorem dX11_cell_117 : decode cX11_cell 117 = .ok (.iload 5, 2) := by decide +kernel
theorem dX11_cell_119 : decode cX11_cell 119 = .ok (.iload_n 3, 1) := by decide +kernel
theorem dX11_cell_120 : decode cX11_cell 120 = .ok (.invokevirtual 297, 3) := by decide +kernel
theorem dX11_cell_123 : decode cX11_cell 123 = .ok (.lreturn, 1) := by decide +kernel
theorem dX11_ask_0 : decode cX11_ask 0 = .ok (.aload_n 0, 1) := by decide +kernel
theorem dX11_ask_1 : decode cX11_ask 1 = .ok (.iload_n 1, 1) := by decide +kernel
theorem dX11_ask_2 : decode cX11_ask 2 = .ok (.invokevirtual 167, 3) := by decide +kernel
theorem dX11_ask_5 : decode cX11_ask 5 = .ok (.astore_n 2, 1) := by decide +kernel
theorem dX11_ask_6 : decode cX11_ask 6 = .ok (.aload_n 2, 1) := by decide +kernel
theorem dX11_ask_7 : decode cX11_ask 7 = .ok (.ifnonnull 5, 3) := by decide +kernel
theorem dX11_ask_10 : decode cX11_ask 10 = .ok (.iconst (-1), 1) := by decide +kernel
theorem dX11_ask_11 : decode cX11_ask 11 = .ok (.ireturn, 1) := by decide +kernel
theorem dX11_ask_12 : decode cX11_ask 12 = .ok (.aload_n 0, 1) := by decide +kernel
theorem dX11_ask_13 : decode cX11_ask 13 = .ok (.getfield 16, 3) := by decide +kernel
theorem dX11_ask_16 : decode cX11_ask 16 = .ok (.aload_n 0, 1) := by decide +kernel
theorem dX11_ask_17 : decode cX11_ask 17 = .ok (.getfield 9, 3) := by decide +kernel
theorem dX11_ask_20 : decode cX11_ask 20 = .ok (.aload_n 0, 1) := by decide +kernel
theorem dX11_ask_21 : decode cX11_ask 21 = .ok (.getfield 86, 3) := by decide +kernel
theorem dX11_ask_24 : decode cX11_ask 24 = .ok (.invokevirtual 94, 3) := by decide +kernel
theorem dX11_ask_27 : decode cX11_ask 27 = .ok (.aload_n 0, 1) := by decide +kernel
theorem dX11_ask_28 : decode cX11_ask 28 = .ok (.iconst 0, 1) := by decide +kernel
theorem dX11_ask_29 : decode cX11_ask 29 = .ok (.putfield 86, 3) := by decide +kernel
theorem dX11_ask_32 : decode cX11_ask 32 = .ok (.aload_n 0, 1) := by decide +kernel
theorem dX11_ask_33 : decode cX11_ask 33 = .ok (.getfield 41, 3) := by decide +kernel
theorem dX11_ask_36 : decode cX11_ask 36 = .ok (.aload_n 0, 1) := by decide +kernel
theorem dX11_ask_37 : decode cX11_ask 37 = .ok (.getfield 53, 3) := by decide +kernel
theorem dX11_ask_40 : decode cX11_ask 40 = .ok (.getfield 102, 3) := by decide +kernel
theorem dX11_ask_43 : decode cX11_ask 43 = .ok (.invokevirtual 300, 3) := by decide +kernel
theorem dX11_ask_46 : decode cX11_ask 46 = .ok (.ifCond .ne 5, 3) := by decide +kernel
theorem dX11_ask_49 : decode cX11_ask 49 = .ok (.iconst (-1), 1) := by decide +kernel
theorem dX11_ask_50 : decode cX11_ask 50 = .ok (.ireturn, 1) := by decide +kernel
theorem dX11_ask_51 : decode cX11_ask 51 = .ok (.aload_n 0, 1) := by decide +kernel
theorem dX11_ask_52 : decode cX11_ask 52 = .ok (.getfield 79, 3) := by decide +kernel
theorem dX11_ask_55 : decode cX11_ask 55 = .ok (.aload_n 2, 1) := by decide +kernel
theorem dX11_ask_56 : decode cX11_ask 56 = .ok (.invokevirtual 171, 3) := by decide +kernel
theorem dX11_ask_59 : decode cX11_ask 59 = .ok (.istore_n 3, 1) := by decide +kernel
theorem dX11_ask_60 : decode cX11_ask 60 = .ok (.iload_n 3, 1) := by decide +kernel
theorem dX11_ask_61 : decode cX11_ask 61 = .ok (.ifCond .eq 8, 3) := by decide +kernel
theorem dX11_ask_64 : decode cX11_ask 64 = .ok (.bipush (-10), 2) := by decide +kernel
theorem dX11_ask_66 : decode cX11_ask 66 = .ok (.iload_n 3, 1) := by decide +kernel
theorem dX11_ask_67 : decode cX11_ask 67 = .ok (.isub, 1) := by decide +kernel
theorem dX11_ask_68 : decode cX11_ask 68 = .ok (.ireturn, 1) := by decide +kernel
theorem dX11_ask_69 : decode cX11_ask 69 = .ok (.aload_n 0, 1) := by decide +kernel
theorem dX11_ask_70 : decode cX11_ask 70 = .ok (.invokevirtual 303, 3) := by decide +kernel
theorem dX11_ask_73 : decode cX11_ask 73 = .ok (.aload_n 0, 1) := by decide +kernel
theorem dX11_ask_74 : decode cX11_ask 74 = .ok (.getfield 306, 3) := by decide +kernel
theorem dX11_ask_77 : decode cX11_ask 77 = .ok (.ireturn, 1) := by decide +kernel
theorem dX11_found_0 : decode cX11_found 0 = .ok (.iload_n 1, 1) := by decide +kernel
theorem dX11_found_1 : decode cX11_found 1 = .ok (.ifCond .lt 11, 3) := by decide +kernel
theorem dX11_found_4 : decode cX11_found 4 = .ok (.iload_n 1, 1) := by decide +kernel
theorem dX11_found_5 : decode cX11_found 5 = .ok (.aload_n 0, 1) := by decide +kernel
theorem dX11_found_6 : decode cX11_found 6 = .ok (.getfield 306, 3) := by decide +kernel
theorem dX11_found_9 : decode cX11_found 9 = .ok (.if_icmp .lt 7, 3) := by decide +kernel
theorem dX11_found_12 : decode cX11_found 12 = .ok (.iconst (-1), 1) := by decide +kernel
theorem dX11_found_13 : decode cX11_found 13 = .ok (.goto 9, 3) := by decide +kernel
theorem dX11_found_16 : decode cX11_found 16 = .ok (.aload_n 0, 1) := by decide +kernel
theorem dX11_found_17 : decode cX11_found 17 = .ok (.getfield 83, 3) := by decide +kernel
theorem dX11_found_20 : decode cX11_found 20 = .ok (.iload_n 1, 1) := by decide +kernel
theorem dX11_found_21 : decode cX11_found 21 = .ok (.iaload, 1) := by decide +kernel
theorem dX11_found_22 : decode cX11_found 22 = .ok (.ireturn, 1) := by decide +kernel
theorem dX11_count_0 : decode cX11_count 0 = .ok (.iload_n 1, 1) := by decide +kernel
theorem dX11_count_1 : decode cX11_count 1 = .ok (.tableswitch 51 0 2 #[27, 38, 43], 27) := by decide +kernel
theorem dX11_count_28 : decode cX11_count 28 = .ok (.aload_n 0, 1) := by decide +kernel
theorem dX11_count_29 : decode cX11_count 29 = .ok (.getfield 53, 3) := by decide +kernel
theorem dX11_count_32 : decode cX11_count 32 = .ok (.getfield 102, 3) := by decide +kernel
theorem dX11_count_35 : decode cX11_count 35 = .ok (.getfield 108, 3) := by decide +kernel
theorem dX11_count_38 : decode cX11_count 38 = .ok (.ireturn, 1) := by decide +kernel
theorem dX11_count_39 : decode cX11_count 39 = .ok (.aload_n 0, 1) := by decide +kernel
theorem dX11_count_40 : decode cX11_count 40 = .ok (.invokevirtual 309, 3) := by decide +kernel
theorem dX11_count_43 : decode cX11_count 43 = .ok (.ireturn, 1) := by decide +kernel
theorem dX11_count_44 : decode cX11_count 44 = .ok (.aload_n 0, 1) := by decide +kernel
theorem dX11_count_45 : decode cX11_count 45 = .ok (.getfield 53, 3) := by decide +kernel
theorem dX11_count_48 : decode cX11_count 48 = .ok (.invokevirtual 313, 3) := by decide +kernel
theorem dX11_count_51 : decode cX11_count 51 = .ok (.ireturn, 1) := by decide +kernel
theorem dX11_count_52 : decode cX11_count 52 = .ok (.iconst (-1), 1) := by decide +kernel
theorem dX11_count_53 : decode cX11_count 53 = .ok (.ireturn, 1) := by decide +kernel
theorem dX11_feedNumber_0 : decode cX11_feedNumber 0 = .ok (.bipush 24, 2) := by decide +kernel
theorem dX11_feedNumber_2 : decode cX11_feedNumber 2 = .ok (.istore_n 2, 1) := by decide +kernel
theorem dX11_feedNumber_3 : decode cX11_feedNumber 3 = .ok (.iload_n 2, 1) := by decide +kernel
theorem dX11_feedNumber_4 : decode cX11_feedNumber 4 = .ok (.ifCond .lt 42, 3) := by decide +kernel
theorem dX11_feedNumber_7 : decode cX11_feedNumber 7 = .ok (.aload_n 0, 1) := by decide +kernel
theorem dX11_feedNumber_8 : decode cX11_feedNumber 8 = .ok (.getfield 86, 3) := by decide +kernel
theorem dX11_feedNumber_11 : decode cX11_feedNumber 11 = .ok (.sipush 3000, 3) := by decide +kernel
theorem dX11_feedNumber_14 : decode cX11_feedNumber 14 = .ok (.if_icmp .ge 26, 3) := by decide +kernel
theorem dX11_feedNumber_17 : decode cX11_feedNumber 17 = .ok (.aload_n 0, 1) := by decide +kernel
theorem dX11_feedNumber_18 : decode cX11_feedNumber 18 = .ok (.getfield 9, 3) := by decide +kernel
theorem dX11_feedNumber_21 : decode cX11_feedNumber 21 = .ok (.aload_n 0, 1) := by decide +kernel
theorem dX11_feedNumber_22 : decode cX11_feedNumber 22 = .ok (.getfield 86, 3) := by decide +kernel
theorem dX11_feedNumber_25 : decode cX11_feedNumber 25 = .ok (.iload_n 1, 1) := by decide +kernel
theorem dX11_feedNumber_26 : decode cX11_feedNumber 26 = .ok (.iload_n 2, 1) := by decide +kernel
theorem dX11_feedNumber_27 : decode cX11_feedNumber 27 = .ok (.ishr, 1) := by decide +kernel
theorem dX11_feedNumber_28 : decode cX11_feedNumber 28 = .ok (.i2b, 1) := by decide +kernel
theorem dX11_feedNumber_29 : decode cX11_feedNumber 29 = .ok (.bastore, 1) := by decide +kernel
theorem dX11_feedNumber_30 : decode cX11_feedNumber 30 = .ok (.aload_n 0, 1) := by decide +kernel
theorem dX11_feedNumber_31 : decode cX11_feedNumber 31 = .ok (.dup, 1) := by decide +kernel
theorem dX11_feedNumber_32 : decode cX11_feedNumber 32 = .ok (.getfield 86, 3) := by decide +kernel
theorem dX11_feedNumber_35 : decode cX11_feedNumber 35 = .ok (.iconst 1, 1) := by decide +kernel
theorem dX11_feedNumber_36 : decode cX11_feedNumber 36 = .ok (.iadd, 1) := by decide +kernel
theorem dX11_feedNumber_37 : decode cX11_feedNumber 37 = .ok (.putfield 86, 3) := by decide +kernel
theorem dX11_feedNumber_40 : decode cX11_feedNumber 40 = .ok (.iinc 2 (-8), 3) := by decide +kernel
theorem dX11_feedNumber_43 : decode cX11_feedNumber 43 = .ok (.goto (-40), 3) := by decide +kernel
theorem dX11_feedNumber_46 : decode cX11_feedNumber 46 = .ok (.return_, 1) := by decide +kernel
theorem dX11_beginAnew_0 : decode cX11_beginAnew 0 = .ok (.aload_n 0, 1) := by decide +kernel
theorem dX11_beginAnew_1 : decode cX11_beginAnew 1 = .ok (.getfield 53, 3) := by decide +kernel
theorem dX11_beginAnew_4 : decode cX11_beginAnew 4 = .ok (.invokevirtual 316, 3) := by decide +kernel
theorem dX11_beginAnew_7 : decode cX11_beginAnew 7 = .ok (.iconst 0, 1) := by decide +kernel
theorem dX11_beginAnew_8 : decode cX11_beginAnew 8 = .ok (.istore_n 1, 1) := by decide +kernel
theorem dX11_beginAnew_9 : decode cX11_beginAnew 9 = .ok (.iload_n 1, 1) := by decide +kernel
theorem dX11_beginAnew_10 : decode cX11_beginAnew 10 = .ok (.iconst 4, 1) := by decide +kernel
theorem dX11_beginAnew_11 : decode cX11_beginAnew 11 = .ok (.if_icmp .ge 19, 3) := by decide +kernel
theorem dX11_beginAnew_14 : decode cX11_beginAnew 14 = .ok (.aload_n 0, 1) := by decide +kernel
theorem dX11_beginAnew_15 : decode cX11_beginAnew 15 = .ok (.getfield 67, 3) := by decide +kernel
theorem dX11_beginAnew_18 : decode cX11_beginAnew 18 = .ok (.iload_n 1, 1) := by decide +kernel
theorem dX11_beginAnew_19 : decode cX11_beginAnew 19 = .ok (.aaload, 1) := by decide +kernel
theorem dX11_beginAnew_20 : decode cX11_beginAnew 20 = .ok (.iconst 0, 1) := by decide +kernel
theorem dX11_beginAnew_21 : decode cX11_beginAnew 21 = .ok (.putfield 160, 3) := by decide +kernel
theorem dX11_beginAnew_24 : decode cX11_beginAnew 24 = .ok (.iinc 1 1, 3) := by decide +kernel
theorem dX11_beginAnew_27 : decode cX11_beginAnew 27 = .ok (.goto (-18), 3) := by decide +kernel
theorem dX11_beginAnew_30 : decode cX11_beginAnew 30 = .ok (.iconst 0, 1) := by decide +kernel
theorem dX11_beginAnew_31 : decode cX11_beginAnew 31 = .ok (.istore_n 1, 1) := by decide +kernel
theorem dX11_beginAnew_32 : decode cX11_beginAnew 32 = .ok (.iload_n 1, 1) := by decide +kernel
theorem dX11_beginAnew_33 : decode cX11_beginAnew 33 = .ok (.bipush 12, 2) := by decide +kernel
theorem dX11_beginAnew_35 : decode cX11_beginAnew 35 = .ok (.if_icmp .ge 16, 3) := by decide +kernel
theorem dX11_beginAnew_38 : decode cX11_beginAnew 38 = .ok (.aload_n 0, 1) := by decide +kernel
theorem dX11_beginAnew_39 : decode cX11_beginAnew 39 = .ok (.getfield 61, 3) := by decide +kernel
theorem dX11_beginAnew_42 : decode cX11_beginAnew 42 = .ok (.iload_n 1, 1) := by decide +kernel
theorem dX11_beginAnew_43 : decode cX11_beginAnew 43 = .ok (.iconst 0, 1) := by decide +kernel
theorem dX11_beginAnew_44 : decode cX11_beginAnew 44 = .ok (.iastore, 1) := by decide +kernel
theorem dX11_beginAnew_45 : decode cX11_beginAnew 45 = .ok (.iinc 1 1, 3) := by decide +kernel
theorem dX11_beginAnew_48 : decode cX11_beginAnew 48 = .ok (.goto (-16), 3) := by decide +kernel
