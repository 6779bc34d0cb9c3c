theorem dX12_keepRows_81 : decode cX12_keepRows 81 = .ok (.imul, 1) := by decide +kernel
theorem dX12_keepRows_82 : decode cX12_keepRows 82 = .ok (.if_icmp .ge 21, 3) := by decide +kernel
theorem dX12_keepRows_85 : decode cX12_keepRows 85 = .ok (.aload_n 0, 1) := by decide +kernel
theorem dX12_keepRows_86 : decode cX12_keepRows 86 = .ok (.getfield 107, 3) := by decide +kernel
theorem dX12_keepRows_89 : decode cX12_keepRows 89 = .ok (.iload_n 1, 1) := by decide +kernel
theorem dX12_keepRows_90 : decode cX12_keepRows 90 = .ok (.aload_n 0, 1) := by decide +kernel
theorem dX12_keepRows_91 : decode cX12_keepRows 91 = .ok (.getfield 89, 3) := by decide +kernel
theorem dX12_keepRows_94 : decode cX12_keepRows 94 = .ok (.iload_n 1, 1) := by decide +kernel
theorem dX12_keepRows_95 : decode cX12_keepRows 95 = .ok (.iaload, 1) := by decide +kernel
theorem dX12_keepRows_96 : decode cX12_keepRows 96 = .ok (.iastore, 1) := by decide +kernel
theorem dX12_keepRows_97 : decode cX12_keepRows 97 = .ok (.iinc 1 1, 3) := by decide +kernel
theorem dX12_keepRows_100 : decode cX12_keepRows 100 = .ok (.goto (-26), 3) := by decide +kernel
theorem dX12_keepRows_103 : decode cX12_keepRows 103 = .ok (.return_, 1) := by decide +kernel
theorem dX12_backRows_0 : decode cX12_backRows 0 = .ok (.aload_n 0, 1) := by decide +kernel
theorem dX12_backRows_1 : decode cX12_backRows 1 = .ok (.aload_n 0, 1) := by decide +kernel
theorem dX12_backRows_2 : decode cX12_backRows 2 = .ok (.getfield 377, 3) := by decide +kernel
theorem dX12_backRows_5 : decode cX12_backRows 5 = .ok (.putfield 344, 3) := by decide +kernel
theorem dX12_backRows_8 : decode cX12_backRows 8 = .ok (.iconst 0, 1) := by decide +kernel
theorem dX12_backRows_9 : decode cX12_backRows 9 = .ok (.istore_n 1, 1) := by decide +kernel
theorem dX12_backRows_10 : decode cX12_backRows 10 = .ok (.iload_n 1, 1) := by decide +kernel
theorem dX12_backRows_11 : decode cX12_backRows 11 = .ok (.aload_n 0, 1) := by decide +kernel
theorem dX12_backRows_12 : decode cX12_backRows 12 = .ok (.getfield 344, 3) := by decide +kernel
theorem dX12_backRows_15 : decode cX12_backRows 15 = .ok (.if_icmp .ge 57, 3) := by decide +kernel
theorem dX12_backRows_18 : decode cX12_backRows 18 = .ok (.aload_n 0, 1) := by decide +kernel
theorem dX12_backRows_19 : decode cX12_backRows 19 = .ok (.getfield 77, 3) := by decide +kernel
theorem dX12_backRows_22 : decode cX12_backRows 22 = .ok (.iload_n 1, 1) := by decide +kernel
theorem dX12_backRows_23 : decode cX12_backRows 23 = .ok (.aload_n 0, 1) := by decide +kernel
theorem dX12_backRows_24 : decode cX12_backRows 24 = .ok (.getfield 95, 3) := by decide +kernel
theorem dX12_backRows_27 : decode cX12_backRows 27 = .ok (.iload_n 1, 1) := by decide +kernel
theorem dX12_backRows_28 : decode cX12_backRows 28 = .ok (.iaload, 1) := by decide +kernel
theorem dX12_backRows_29 : decode cX12_backRows 29 = .ok (.iastore, 1) := by decide +kernel
theorem dX12_backRows_30 : decode cX12_backRows 30 = .ok (.aload_n 0, 1) := by decide +kernel
theorem dX12_backRows_31 : decode cX12_backRows 31 = .ok (.getfield 80, 3) := by decide +kernel
theorem dX12_backRows_34 : decode cX12_backRows 34 = .ok (.iload_n 1, 1) := by decide +kernel
theorem dX12_backRows_35 : decode cX12_backRows 35 = .ok (.aload_n 0, 1) := by decide +kernel
theorem dX12_backRows_36 : decode cX12_backRows 36 = .ok (.getfield 98, 3) := by decide +kernel
theorem dX12_backRows_39 : decode cX12_backRows 39 = .ok (.iload_n 1, 1) := by decide +kernel
theorem dX12_backRows_40 : decode cX12_backRows 40 = .ok (.iaload, 1) := by decide +kernel
theorem dX12_backRows_41 : decode cX12_backRows 41 = .ok (.iastore, 1) := by decide +kernel
theorem dX12_backRows_42 : decode cX12_backRows 42 = .ok (.aload_n 0, 1) := by decide +kernel
theorem dX12_backRows_43 : decode cX12_backRows 43 = .ok (.getfield 83, 3) := by decide +kernel
theorem dX12_backRows_46 : decode cX12_backRows 46 = .ok (.iload_n 1, 1) := by decide +kernel
theorem dX12_backRows_47 : decode cX12_backRows 47 = .ok (.aload_n 0, 1) := by decide +kernel
theorem dX12_backRows_48 : decode cX12_backRows 48 = .ok (.getfield 101, 3) := by decide +kernel
theorem dX12_backRows_51 : decode cX12_backRows 51 = .ok (.iload_n 1, 1) := by decide +kernel
theorem dX12_backRows_52 : decode cX12_backRows 52 = .ok (.iaload, 1) := by decide +kernel
theorem dX12_backRows_53 : decode cX12_backRows 53 = .ok (.iastore, 1) := by decide +kernel
theorem dX12_backRows_54 : decode cX12_backRows 54 = .ok (.aload_n 0, 1) := by decide +kernel
theorem dX12_backRows_55 : decode cX12_backRows 55 = .ok (.getfield 86, 3) := by decide +kernel
theorem dX12_backRows_58 : decode cX12_backRows 58 = .ok (.iload_n 1, 1) := by decide +kernel
theorem dX12_backRows_59 : decode cX12_backRows 59 = .ok (.aload_n 0, 1) := by decide +kernel
theorem dX12_backRows_60 : decode cX12_backRows 60 = .ok (.getfield 104, 3) := by decide +kernel
theorem dX12_backRows_63 : decode cX12_backRows 63 = .ok (.iload_n 1, 1) := by decide +kernel
theorem dX12_backRows_64 : decode cX12_backRows 64 = .ok (.iaload, 1) := by decide +kernel
theorem dX12_backRows_65 : decode cX12_backRows 65 = .ok (.iastore, 1) := by decide +kernel
theorem dX12_backRows_66 : decode cX12_backRows 66 = .ok (.iinc 1 1, 3) := by decide +kernel
theorem dX12_backRows_69 : decode cX12_backRows 69 = .ok (.goto (-59), 3) := by decide +kernel
theorem dX12_backRows_72 : decode cX12_backRows 72 = .ok (.iconst 0, 1) := by decide +kernel
theorem dX12_backRows_73 : decode cX12_backRows 73 = .ok (.istore_n 1, 1) := by decide +kernel
theorem dX12_backRows_74 : decode cX12_backRows 74 = .ok (.iload_n 1, 1) := by decide +kernel
theorem dX12_backRows_75 : decode cX12_backRows 75 = .ok (.bipush 16, 2) := by decide +kernel
theorem dX12_backRows_77 : decode cX12_backRows 77 = .ok (.aload_n 0, 1) := by decide +kernel
theorem dX12_backRows_78 : decode cX12_backRows 78 = .ok (.getfield 344, 3) := by decide +kernel
theorem dX12_backRows_81 : decode cX12_backRows 81 = .ok (.imul, 1) := by decide +kernel
theorem dX12_backRows_82 : decode cX12_backRows 82 = .ok (.if_icmp .ge 21, 3) := by decide +kernel
theorem dX12_backRows_85 : decode cX12_backRows 85 = .ok (.aload_n 0, 1) := by decide +kernel
theorem dX12_backRows_86 : decode cX12_backRows 86 = .ok (.getfield 89, 3) := by decide +kernel
theorem dX12_backRows_89 : decode cX12_backRows 89 = .ok (.iload_n 1, 1) := by decide +kernel
theorem dX12_backRows_90 : decode cX12_backRows 90 = .ok (.aload_n 0, 1) := by decide +kernel
theorem dX12_backRows_91 : decode cX12_backRows 91 = .ok (.getfield 107, 3) := by decide +kernel
theorem dX12_backRows_94 : decode cX12_backRows 94 = .ok (.iload_n 1, 1) := by decide +kernel
theorem dX12_backRows_95 : decode cX12_backRows 95 = .ok (.iaload, 1) := by decide +kernel
theorem dX12_backRows_96 : decode cX12_backRows 96 = .ok (.iastore, 1) := by decide +kernel
theorem dX12_backRows_97 : decode cX12_backRows 97 = .ok (.iinc 1 1, 3) := by decide +kernel
theorem dX12_backRows_100 : decode cX12_backRows 100 = .ok (.goto (-26), 3) := by decide +kernel
theorem dX12_backRows_103 : decode cX12_backRows 103 = .ok (.return_, 1) := by decide +kernel
theorem dX12_isValue_0 : decode cX12_isValue 0 = .ok (.bipush 16, 2) := by decide +kernel
theorem dX12_isValue_2 : decode cX12_isValue 2 = .ok (.iload_n 1, 1) := by decide +kernel
theorem dX12_isValue_3 : decode cX12_isValue 3 = .ok (.imul, 1) := by decide +kernel
theorem dX12_isValue_4 : decode cX12_isValue 4 = .ok (.iload_n 2, 1) := by decide +kernel
theorem dX12_isValue_5 : decode cX12_isValue 5 = .ok (.iadd, 1) := by decide +kernel
theorem dX12_isValue_6 : decode cX12_isValue 6 = .ok (.istore 4, 2) := by decide +kernel
theorem dX12_isValue_8 : decode cX12_isValue 8 = .ok (.aload_n 0, 1) := by decide +kernel
theorem dX12_isValue_9 : decode cX12_isValue 9 = .ok (.getfield 32, 3) := by decide +kernel
theorem dX12_isValue_12 : decode cX12_isValue 12 = .ok (.iload 4, 2) := by decide +kernel
theorem dX12_isValue_14 : decode cX12_isValue 14 = .ok (.iaload, 1) := by decide +kernel
theorem dX12_isValue_15 : decode cX12_isValue 15 = .ok (.tableswitch 85 0 3 #[29, 31, 49, 64], 29) := by decide +kernel
theorem dX12_isValue_44 : decode cX12_isValue 44 = .ok (.iconst 1, 1) := by decide +kernel
theorem dX12_isValue_45 : decode cX12_isValue 45 = .ok (.ireturn, 1) := by decide +kernel
theorem dX12_isValue_46 : decode cX12_isValue 46 = .ok (.iload_n 3, 1) := by decide +kernel
theorem dX12_isValue_47 : decode cX12_isValue 47 = .ok (.bipush (-128), 2) := by decide +kernel
theorem dX12_isValue_49 : decode cX12_isValue 49 = .ok (.if_icmp .lt 13, 3) := by decide +kernel
theorem dX12_isValue_52 : decode cX12_isValue 52 = .ok (.iload_n 3, 1) := by decide +kernel
theorem dX12_isValue_53 : decode cX12_isValue 53 = .ok (.bipush 127, 2) := by decide +kernel
theorem dX12_isValue_55 : decode cX12_isValue 55 = .ok (.if_icmp .gt 7, 3) := by decide +kernel
theorem dX12_isValue_58 : decode cX12_isValue 58 = .ok (.iconst 1, 1) := by decide +kernel
theorem dX12_isValue_59 : decode cX12_isValue 59 = .ok (.goto 4, 3) := by decide +kernel
theorem dX12_isValue_62 : decode cX12_isValue 62 = .ok (.iconst 0, 1) := by decide +kernel
theorem dX12_isValue_63 : decode cX12_isValue 63 = .ok (.ireturn, 1) := by decide +kernel
theorem dX12_isValue_64 : decode cX12_isValue 64 = .ok (.iload_n 3, 1) := by decide +kernel
theorem dX12_isValue_65 : decode cX12_isValue 65 = .ok (.ifCond .eq 8, 3) := by decide +kernel
theorem dX12_isValue_68 : decode cX12_isValue 68 = .ok (.iload_n 3, 1) := by decide +kernel
theorem dX12_isValue_69 : decode cX12_isValue 69 = .ok (.iconst 1, 1) := by decide +kernel
theorem dX12_isValue_70 : decode cX12_isValue 70 = .ok (.if_icmp .ne 7, 3) := by decide +kernel
theorem dX12_isValue_73 : decode cX12_isValue 73 = .ok (.iconst 1, 1) := by decide +kernel
theorem dX12_isValue_74 : decode cX12_isValue 74 = .ok (.goto 4, 3) := by decide +kernel
theorem dX12_isValue_77 : decode cX12_isValue 77 = .ok (.iconst 0, 1) := by decide +kernel
theorem dX12_isValue_78 : decode cX12_isValue 78 = .ok (.ireturn, 1) := by decide +kernel
theorem dX12_isValue_79 : decode cX12_isValue 79 = .ok (.iload_n 3, 1) := by decide +kernel
theorem dX12_isValue_80 : decode cX12_isValue 80 = .ok (.ifCond .lt 18, 3) := by decide +kernel
theorem dX12_isValue_83 : decode cX12_isValue 83 = .ok (.iload_n 3, 1) := by decide +kernel
theorem dX12_isValue_84 : decode cX12_isValue 84 = .ok (.aload_n 0, 1) := by decide +kernel
theorem dX12_isValue_85 : decode cX12_isValue 85 = .ok (.getfield 41, 3) := by decide +kernel
theorem dX12_isValue_88 : decode cX12_isValue 88 = .ok (.iload 4, 2) := by decide +kernel
theorem dX12_isValue_90 : decode cX12_isValue 90 = .ok (.iaload, 1) := by decide +kernel
theorem dX12_isValue_91 : decode cX12_isValue 91 = .ok (.if_icmp .ge 7, 3) := by decide +kernel
theorem dX12_isValue_94 : decode cX12_isValue 94 = .ok (.iconst 1, 1) := by decide +kernel
theorem dX12_isValue_95 : decode cX12_isValue 95 = .ok (.goto 4, 3) := by decide +kernel
theorem dX12_isValue_98 : decode cX12_isValue 98 = .ok (.iconst 0, 1) := by decide +kernel
theorem dX12_isValue_99 : decode cX12_isValue 99 = .ok (.ireturn, 1) := by decide +kernel
theorem dX12_isValue_100 : decode cX12_isValue 100 = .ok (.iconst 0, 1) := by decide +kernel
theorem dX12_isValue_101 : decode cX12_isValue 101 = .ok (.ireturn, 1) := by decide +kernel
theorem dX12_isUnit_0 : decode cX12_isUnit 0 = .ok (.iload_n 1, 1) := by decide +kernel
theorem dX12_isUnit_1 : decode cX12_isUnit 1 = .ok (.ifCond .lt 21, 3) := by decide +kernel
theorem dX12_isUnit_4 : decode cX12_isUnit 4 = .ok (.iload_n 1, 1) := by decide +kernel
theorem dX12_isUnit_5 : decode cX12_isUnit 5 = .ok (.iconst 4, 1) := by decide +kernel
theorem dX12_isUnit_6 : decode cX12_isUnit 6 = .ok (.if_icmp .ge 16, 3) := by decide +kernel
theorem dX12_isUnit_9 : decode cX12_isUnit 9 = .ok (.aload_n 0, 1) := by decide +kernel
theorem dX12_isUnit_10 : decode cX12_isUnit 10 = .ok (.getfield 110, 3) := by decide +kernel
theorem dX12_isUnit_13 : decode cX12_isUnit 13 = .ok (.iload_n 1, 1) := by decide +kernel
theorem dX12_isUnit_14 : decode cX12_isUnit 14 = .ok (.baload, 1) := by decide +kernel
theorem dX12_isUnit_15 : decode cX12_isUnit 15 = .ok (.ifCond .eq 7, 3) := by decide +kernel
theorem dX12_isUnit_18 : decode cX12_isUnit 18 = .ok (.iconst 1, 1) := by decide +kernel
theorem dX12_isUnit_19 : decode cX12_isUnit 19 = .ok (.goto 4, 3) := by decide +kernel
theorem dX12_isUnit_22 : decode cX12_isUnit 22 = .ok (.iconst 0, 1) := by decide +kernel
theorem dX12_isUnit_23 : decode cX12_isUnit 23 = .ok (.ireturn, 1) := by decide +kernel
theorem dX12_unit_0 : decode cX12_unit 0 = .ok (.iconst 0, 1) := by decide +kernel
theorem dX12_unit_1 : decode cX12_unit 1 = .ok (.istore_n 1, 1) := by decide +kernel
theorem dX12_unit_2 : decode cX12_unit 2 = .ok (.iload_n 1, 1) := by decide +kernel
theorem dX12_unit_3 : decode cX12_unit 3 = .ok (.iconst 4, 1) := by decide +kernel
theorem dX12_unit_4 : decode cX12_unit 4 = .ok (.if_icmp .ge 44, 3) := by decide +kernel
theorem dX12_unit_7 : decode cX12_unit 7 = .ok (.aload_n 0, 1) := by decide +kernel
theorem dX12_unit_8 : decode cX12_unit 8 = .ok (.getfield 110, 3) := by decide +kernel
theorem dX12_unit_11 : decode cX12_unit 11 = .ok (.iload_n 1, 1) := by decide +kernel
theorem dX12_unit_12 : decode cX12_unit 12 = .ok (.baload, 1) := by decide +kernel
theorem dX12_unit_13 : decode cX12_unit 13 = .ok (.ifCond .eq 6, 3) := by decide +kernel
theorem dX12_unit_16 : decode cX12_unit 16 = .ok (.goto 26, 3) := by decide +kernel
theorem dX12_unit_19 : decode cX12_unit 19 = .ok (.aload_n 0, 1) := by decide +kernel
theorem dX12_unit_20 : decode cX12_unit 20 = .ok (.getfield 110, 3) := by decide +kernel
theorem dX12_unit_23 : decode cX12_unit 23 = .ok (.iload_n 1, 1) := by decide +kernel
theorem dX12_unit_24 : decode cX12_unit 24 = .ok (.iconst 1, 1) := by decide +kernel
theorem dX12_unit_25 : decode cX12_unit 25 = .ok (.bastore, 1) := by decide +kernel
theorem dX12_unit_26 : decode cX12_unit 26 = .ok (.aload_n 0, 1) := by decide +kernel
theorem dX12_unit_27 : decode cX12_unit 27 = .ok (.getfield 114, 3) := by decide +kernel
theorem dX12_unit_30 : decode cX12_unit 30 = .ok (.iload_n 1, 1) := by decide +kernel
theorem dX12_unit_31 : decode cX12_unit 31 = .ok (.iconst 0, 1) := by decide +kernel
theorem dX12_unit_32 : decode cX12_unit 32 = .ok (.iastore, 1) := by decide +kernel
theorem dX12_unit_33 : decode cX12_unit 33 = .ok (.aload_n 0, 1) := by decide +kernel
theorem dX12_unit_34 : decode cX12_unit 34 = .ok (.getfield 117, 3) := by decide +kernel
theorem dX12_unit_37 : decode cX12_unit 37 = .ok (.iload_n 1, 1) := by decide +kernel
theorem dX12_unit_38 : decode cX12_unit 38 = .ok (.iconst 0, 1) := by decide +kernel
theorem dX12_unit_39 : decode cX12_unit 39 = .ok (.iastore, 1) := by decide +kernel
theorem dX12_unit_40 : decode cX12_unit 40 = .ok (.iload_n 1, 1) := by decide +kernel
theorem dX12_unit_41 : decode cX12_unit 41 = .ok (.ireturn, 1) := by decide +kernel
theorem dX12_unit_42 : decode cX12_unit 42 = .ok (.iinc 1 1, 3) := by decide +kernel
theorem dX12_unit_45 : decode cX12_unit 45 = .ok (.goto (-43), 3) := by decide +kernel
theorem dX12_unit_48 : decode cX12_unit 48 = .ok (.iconst (-1), 1) := by decide +kernel
theorem dX12_unit_49 : decode cX12_unit 49 = .ok (.ireturn, 1) := by decide +kernel
theorem dX12_placeOf_0 : decode cX12_placeOf 0 = .ok (.iload_n 1, 1) := by decide +kernel
theorem dX12_placeOf_1 : decode cX12_placeOf 1 = .ok (.bipush 100, 2) := by decide +kernel
theorem dX12_placeOf_3 : decode cX12_placeOf 3 = .ok (.idiv, 1) := by decide +kernel
theorem dX12_placeOf_4 : decode cX12_placeOf 4 = .ok (.istore_n 2, 1) := by decide +kernel
theorem dX12_placeOf_5 : decode cX12_placeOf 5 = .ok (.iload_n 1, 1) := by decide +kernel
theorem dX12_placeOf_6 : decode cX12_placeOf 6 = .ok (.bipush 100, 2) := by decide +kernel
theorem dX12_placeOf_8 : decode cX12_placeOf 8 = .ok (.irem, 1) := by decide +kernel
theorem dX12_placeOf_9 : decode cX12_placeOf 9 = .ok (.istore_n 3, 1) := by decide +kernel
theorem dX12_placeOf_10 : decode cX12_placeOf 10 = .ok (.iload_n 1, 1) := by decide +kernel
theorem dX12_placeOf_11 : decode cX12_placeOf 11 = .ok (.ifCond .lt 30, 3) := by decide +kernel
theorem dX12_placeOf_14 : decode cX12_placeOf 14 = .ok (.aload_n 0, 1) := by decide +kernel
theorem dX12_placeOf_15 : decode cX12_placeOf 15 = .ok (.iload_n 2, 1) := by decide +kernel
theorem dX12_placeOf_16 : decode cX12_placeOf 16 = .ok (.invokevirtual 380, 3) := by decide +kernel
theorem dX12_placeOf_19 : decode cX12_placeOf 19 = .ok (.ifCond .eq 22, 3) := by decide +kernel
theorem dX12_placeOf_22 : decode cX12_placeOf 22 = .ok (.iload_n 3, 1) := by decide +kernel
theorem dX12_placeOf_23 : decode cX12_placeOf 23 = .ok (.aload_n 0, 1) := by decide +kernel
theorem dX12_placeOf_24 : decode cX12_placeOf 24 = .ok (.getfield 114, 3) := by decide +kernel
theorem dX12_placeOf_27 : decode cX12_placeOf 27 = .ok (.iload_n 2, 1) := by decide +kernel
theorem dX12_placeOf_28 : decode cX12_placeOf 28 = .ok (.iaload, 1) := by decide +kernel
theorem dX12_placeOf_29 : decode cX12_placeOf 29 = .ok (.if_icmp .ge 12, 3) := by decide +kernel
theorem dX12_placeOf_32 : decode cX12_placeOf 32 = .ok (.bipush 60, 2) := by decide +kernel
theorem dX12_placeOf_34 : decode cX12_placeOf 34 = .ok (.iload_n 2, 1) := by decide +kernel
theorem dX12_placeOf_35 : decode cX12_placeOf 35 = .ok (.imul, 1) := by decide +kernel
theorem dX12_placeOf_36 : decode cX12_placeOf 36 = .ok (.iload_n 3, 1) := by decide +kernel
theorem dX12_placeOf_37 : decode cX12_placeOf 37 = .ok (.iadd, 1) := by decide +kernel
theorem dX12_placeOf_38 : decode cX12_placeOf 38 = .ok (.goto 4, 3) := by decide +kernel
theorem dX12_placeOf_41 : decode cX12_placeOf 41 = .ok (.iconst (-1), 1) := by decide +kernel
theorem dX12_placeOf_42 : decode cX12_placeOf 42 = .ok (.ireturn, 1) := by decide +kernel
theorem dX12_numberOf_0 : decode cX12_numberOf 0 = .ok (.bipush 100, 2) := by decide +kernel
theorem dX12_numberOf_2 : decode cX12_numberOf 2 = .ok (.iload_n 0, 1) := by decide +kernel
theorem dX12_numberOf_3 : decode cX12_numberOf 3 = .ok (.bipush 60, 2) := by decide +kernel
theorem dX12_numberOf_5 : decode cX12_numberOf 5 = .ok (.idiv, 1) := by decide +kernel
theorem dX12_numberOf_6 : decode cX12_numberOf 6 = .ok (.imul, 1) := by decide +kernel
theorem dX12_numberOf_7 : decode cX12_numberOf 7 = .ok (.iload_n 0, 1) := by decide +kernel
theorem dX12_numberOf_8 : decode cX12_numberOf 8 = .ok (.bipush 60, 2) := by decide +kernel
theorem dX12_numberOf_10 : decode cX12_numberOf 10 = .ok (.irem, 1) := by decide +kernel
theorem dX12_numberOf_11 : decode cX12_numberOf 11 = .ok (.iadd, 1) := by decide +kernel
theorem dX12_numberOf_12 : decode cX12_numberOf 12 = .ok (.ireturn, 1) := by decide +kernel
theorem dX12_objectOf_0 : decode cX12_objectOf 0 = .ok (.iconst 0, 1) := by decide +kernel
theorem dX12_objectOf_1 : decode cX12_objectOf 1 = .ok (.istore 4, 2) := by decide +kernel
theorem dX12_objectOf_3 : decode cX12_objectOf 3 = .ok (.iload 4, 2) := by decide +kernel
theorem dX12_objectOf_5 : decode cX12_objectOf 5 = .ok (.aload_n 0, 1) := by decide +kernel
theorem dX12_objectOf_6 : decode cX12_objectOf 6 = .ok (.getfield 114, 3) := by decide +kernel
theorem dX12_objectOf_9 : decode cX12_objectOf 9 = .ok (.iload_n 1, 1) := by decide +kernel
theorem dX12_objectOf_10 : decode cX12_objectOf 10 = .ok (.iaload, 1) := by decide +kernel
theorem dX12_objectOf_11 : decode cX12_objectOf 11 = .ok (.if_icmp .ge 43, 3) := by decide +kernel
theorem dX12_objectOf_14 : decode cX12_objectOf 14 = .ok (.bipush 60, 2) := by decide +kernel
theorem dX12_objectOf_16 : decode cX12_objectOf 16 = .ok (.iload_n 1, 1) := by decide +kernel
theorem dX12_objectOf_17 : decode cX12_objectOf 17 = .ok (.imul, 1) := by decide +kernel
theorem dX12_objectOf_18 : decode cX12_objectOf 18 = .ok (.iload 4, 2) := by decide +kernel
theorem dX12_objectOf_20 : decode cX12_objectOf 20 = .ok (.iadd, 1) := by decide +kernel
theorem dX12_objectOf_21 : decode cX12_objectOf 21 = .ok (.istore 5, 2) := by decide +kernel
theorem dX12_objectOf_23 : decode cX12_objectOf 23 = .ok (.aload_n 0, 1) := by decide +kernel
theorem dX12_objectOf_24 : decode cX12_objectOf 24 = .ok (.getfield 123, 3) := by decide +kernel
theorem dX12_objectOf_27 : decode cX12_objectOf 27 = .ok (.iload 5, 2) := by decide +kernel
theorem dX12_objectOf_29 : decode cX12_objectOf 29 = .ok (.iaload, 1) := by decide +kernel
theorem dX12_objectOf_30 : decode cX12_objectOf 30 = .ok (.iload_n 2, 1) := by decide +kernel
theorem dX12_objectOf_31 : decode cX12_objectOf 31 = .ok (.if_icmp .ne 17, 3) := by decide +kernel
theorem dX12_objectOf_34 : decode cX12_objectOf 34 = .ok (.aload_n 0, 1) := by decide +kernel
theorem dX12_objectOf_35 : decode cX12_objectOf 35 = .ok (.getfield 126, 3) := by decide +kernel
theorem dX12_objectOf_38 : decode cX12_objectOf 38 = .ok (.iload 5, 2) := by decide +kernel
theorem dX12_objectOf_40 : decode cX12_objectOf 40 = .ok (.iaload, 1) := by decide +kernel
theorem dX12_objectOf_41 : decode cX12_objectOf 41 = .ok (.iload_n 3, 1) := by decide +kernel
theorem dX12_objectOf_42 : decode cX12_objectOf 42 = .ok (.if_icmp .ne 6, 3) := by decide +kernel
theorem dX12_objectOf_45 : decode cX12_objectOf 45 = .ok (.iload 5, 2) := by decide +kernel
theorem dX12_objectOf_47 : decode cX12_objectOf 47 = .ok (.ireturn, 1) := by decide +kernel
theorem dX12_objectOf_48 : decode cX12_objectOf 48 = .ok (.iinc 4 1, 3) := by decide +kernel
theorem dX12_objectOf_51 : decode cX12_objectOf 51 = .ok (.goto (-48), 3) := by decide +kernel
theorem dX12_objectOf_54 : decode cX12_objectOf 54 = .ok (.iconst (-1), 1) := by decide +kernel
theorem dX12_objectOf_55 : decode cX12_objectOf 55 = .ok (.ireturn, 1) := by decide +kernel
theorem dX12_newObject_0 : decode cX12_newObject 0 = .ok (.bipush 60, 2) := by decide +kernel
theorem dX12_newObject_2 : decode cX12_newObject 2 = .ok (.iload_n 1, 1) := by decide +kernel
theorem dX12_newObject_3 : decode cX12_newObject 3 = .ok (.imul, 1) := by decide +kernel
theorem dX12_newObject_4 : decode cX12_newObject 4 = .ok (.aload_n 0, 1) := by decide +kernel
theorem dX12_newObject_5 : decode cX12_newObject 5 = .ok (.getfield 114, 3) := by decide +kernel
theorem dX12_newObject_8 : decode cX12_newObject 8 = .ok (.iload_n 1, 1) := by decide +kernel
theorem dX12_newObject_9 : decode cX12_newObject 9 = .ok (.iaload, 1) := by decide +kernel
theorem dX12_newObject_10 : decode cX12_newObject 10 = .ok (.iadd, 1) := by decide +kernel
theorem dX12_newObject_11 : decode cX12_newObject 11 = .ok (.istore 5, 2) := by decide +kernel
theorem dX12_newObject_13 : decode cX12_newObject 13 = .ok (.aload_n 0, 1) := by decide +kernel
theorem dX12_newObject_14 : decode cX12_newObject 14 = .ok (.getfield 114, 3) := by decide +kernel
theorem dX12_newObject_17 : decode cX12_newObject 17 = .ok (.iload_n 1, 1) := by decide +kernel
theorem dX12_newObject_18 : decode cX12_newObject 18 = .ok (.dup2, 1) := by decide +kernel
theorem dX12_newObject_19 : decode cX12_newObject 19 = .ok (.iaload, 1) := by decide +kernel
theorem dX12_newObject_20 : decode cX12_newObject 20 = .ok (.iconst 1, 1) := by decide +kernel
theorem dX12_newObject_21 : decode cX12_newObject 21 = .ok (.iadd, 1) := by decide +kernel
theorem dX12_newObject_22 : decode cX12_newObject 22 = .ok (.iastore, 1) := by decide +kernel
theorem dX12_newObject_23 : decode cX12_newObject 23 = .ok (.aload_n 0, 1) := by decide +kernel
theorem dX12_newObject_24 : decode cX12_newObject 24 = .ok (.getfield 120, 3) := by decide +kernel
theorem dX12_newObject_27 : decode cX12_newObject 27 = .ok (.iload 5, 2) := by decide +kernel
theorem dX12_newObject_29 : decode cX12_newObject 29 = .ok (.iload 4, 2) := by decide +kernel
theorem dX12_newObject_31 : decode cX12_newObject 31 = .ok (.iastore, 1) := by decide +kernel
theorem dX12_newObject_32 : decode cX12_newObject 32 = .ok (.aload_n 0, 1) := by decide +kernel
theorem dX12_newObject_33 : decode cX12_newObject 33 = .ok (.getfield 123, 3) := by decide +kernel
theorem dX12_newObject_36 : decode cX12_newObject 36 = .ok (.iload 5, 2) := by decide +kernel
theorem dX12_newObject_38 : decode cX12_newObject 38 = .ok (.iload_n 2, 1) := by decide +kernel
theorem dX12_newObject_39 : decode cX12_newObject 39 = .ok (.iastore, 1) := by decide +kernel
theorem dX12_newObject_40 : decode cX12_newObject 40 = .ok (.aload_n 0, 1) := by decide +kernel
theorem dX12_newObject_41 : decode cX12_newObject 41 = .ok (.getfield 126, 3) := by decide +kernel
theorem dX12_newObject_44 : decode cX12_newObject 44 = .ok (.iload 5, 2) := by decide +kernel
theorem dX12_newObject_46 : decode cX12_newObject 46 = .ok (.iload_n 3, 1) := by decide +kernel
theorem dX12_newObject_47 : decode cX12_newObject 47 = .ok (.iastore, 1) := by decide +kernel
theorem dX12_newObject_48 : decode cX12_newObject 48 = .ok (.aload_n 0, 1) := by decide +kernel
theorem dX12_newObject_49 : decode cX12_newObject 49 = .ok (.getfield 129, 3) := by decide +kernel
theorem dX12_newObject_52 : decode cX12_newObject 52 = .ok (.iload 5, 2) := by decide +kernel
theorem dX12_newObject_54 : decode cX12_newObject 54 = .ok (.iconst (-1), 1) := by decide +kernel
theorem dX12_newObject_55 : decode cX12_newObject 55 = .ok (.iastore, 1) := by decide +kernel
theorem dX12_newObject_56 : decode cX12_newObject 56 = .ok (.aload_n 0, 1) := by decide +kernel
theorem dX12_newObject_57 : decode cX12_newObject 57 = .ok (.getfield 132, 3) := by decide +kernel
theorem dX12_newObject_60 : decode cX12_newObject 60 = .ok (.iload 5, 2) := by decide +kernel
theorem dX12_newObject_62 : decode cX12_newObject 62 = .ok (.iconst 0, 1) := by decide +kernel
theorem dX12_newObject_63 : decode cX12_newObject 63 = .ok (.iastore, 1) := by decide +kernel
theorem dX12_newObject_64 : decode cX12_newObject 64 = .ok (.iconst 0, 1) := by decide +kernel
theorem dX12_newObject_65 : decode cX12_newObject 65 = .ok (.istore 6, 2) := by decide +kernel
theorem dX12_newObject_67 : decode cX12_newObject 67 = .ok (.iload 6, 2) := by decide +kernel
theorem dX12_newObject_69 : decode cX12_newObject 69 = .ok (.bipush 16, 2) := by decide +kernel
theorem dX12_newObject_71 : decode cX12_newObject 71 = .ok (.if_icmp .ge 37, 3) := by decide +kernel
theorem dX12_newObject_74 : decode cX12_newObject 74 = .ok (.aload_n 0, 1) := by decide +kernel
theorem dX12_newObject_75 : decode cX12_newObject 75 = .ok (.getfield 135, 3) := by decide +kernel
theorem dX12_newObject_78 : decode cX12_newObject 78 = .ok (.bipush 16, 2) := by decide +kernel
theorem dX12_newObject_80 : decode cX12_newObject 80 = .ok (.iload 5, 2) := by decide +kernel
theorem dX12_newObject_82 : decode cX12_newObject 82 = .ok (.imul, 1) := by decide +kernel
theorem dX12_newObject_83 : decode cX12_newObject 83 = .ok (.iload 6, 2) := by decide +kernel
theorem dX12_newObject_85 : decode cX12_newObject 85 = .ok (.iadd, 1) := by decide +kernel
theorem dX12_newObject_86 : decode cX12_newObject 86 = .ok (.iconst 0, 1) := by decide +kernel
theorem dX12_newObject_87 : decode cX12_newObject 87 = .ok (.iastore, 1) := by decide +kernel
theorem dX12_newObject_88 : decode cX12_newObject 88 = .ok (.aload_n 0, 1) := by decide +kernel
theorem dX12_newObject_89 : decode cX12_newObject 89 = .ok (.getfield 138, 3) := by decide +kernel
theorem dX12_newObject_92 : decode cX12_newObject 92 = .ok (.bipush 16, 2) := by decide +kernel
theorem dX12_newObject_94 : decode cX12_newObject 94 = .ok (.iload 5, 2) := by decide +kernel
theorem dX12_newObject_96 : decode cX12_newObject 96 = .ok (.imul, 1) := by decide +kernel
theorem dX12_newObject_97 : decode cX12_newObject 97 = .ok (.iload 6, 2) := by decide +kernel
theorem dX12_newObject_99 : decode cX12_newObject 99 = .ok (.iadd, 1) := by decide +kernel
theorem dX12_newObject_100 : decode cX12_newObject 100 = .ok (.iconst 0, 1) := by decide +kernel
theorem dX12_newObject_101 : decode cX12_newObject 101 = .ok (.iastore, 1) := by decide +kernel
theorem dX12_newObject_102 : decode cX12_newObject 102 = .ok (.iinc 6 1, 3) := by decide +kernel
theorem dX12_newObject_105 : decode cX12_newObject 105 = .ok (.goto (-38), 3) := by decide +kernel
theorem dX12_newObject_108 : decode cX12_newObject 108 = .ok (.iload 5, 2) := by decide +kernel
theorem dX12_newObject_110 : decode cX12_newObject 110 = .ok (.ireturn, 1) := by decide +kernel
theorem dX12_meet_0 : decode cX12_meet 0 = .ok (.aload_n 0, 1) := by decide +kernel
theorem dX12_meet_1 : decode cX12_meet 1 = .ok (.iload_n 1, 1) := by decide +kernel
theorem dX12_meet_2 : decode cX12_meet 2 = .ok (.iload_n 2, 1) := by decide +kernel
theorem dX12_meet_3 : decode cX12_meet 3 = .ok (.iload_n 3, 1) := by decide +kernel
theorem dX12_meet_4 : decode cX12_meet 4 = .ok (.invokevirtual 383, 3) := by decide +kernel
theorem dX12_meet_7 : decode cX12_meet 7 = .ok (.istore 4, 2) := by decide +kernel
theorem dX12_meet_9 : decode cX12_meet 9 = .ok (.iload 4, 2) := by decide +kernel
theorem dX12_meet_11 : decode cX12_meet 11 = .ok (.ifCond .lt 6, 3) := by decide +kernel
theorem dX12_meet_14 : decode cX12_meet 14 = .ok (.iload 4, 2) := by decide +kernel
theorem dX12_meet_16 : decode cX12_meet 16 = .ok (.ireturn, 1) := by decide +kernel
theorem dX12_meet_17 : decode cX12_meet 17 = .ok (.aload_n 0, 1) := by decide +kernel
theorem dX12_meet_18 : decode cX12_meet 18 = .ok (.getfield 114, 3) := by decide +kernel
theorem dX12_meet_21 : decode cX12_meet 21 = .ok (.iload_n 1, 1) := by decide +kernel
theorem dX12_meet_22 : decode cX12_meet 22 = .ok (.iaload, 1) := by decide +kernel
theorem dX12_meet_23 : decode cX12_meet 23 = .ok (.bipush 60, 2) := by decide +kernel
theorem dX12_meet_25 : decode cX12_meet 25 = .ok (.if_icmp .ne 8, 3) := by decide +kernel
theorem dX12_meet_28 : decode cX12_meet 28 = .ok (.bipush (-2), 2) := by decide +kernel
theorem dX12_meet_30 : decode cX12_meet 30 = .ok (.goto 11, 3) := by decide +kernel
theorem dX12_meet_33 : decode cX12_meet 33 = .ok (.aload_n 0, 1) := by decide +kernel
theorem dX12_meet_34 : decode cX12_meet 34 = .ok (.iload_n 1, 1) := by decide +kernel
theorem dX12_meet_35 : decode cX12_meet 35 = .ok (.iload_n 2, 1) := by decide +kernel
theorem dX12_meet_36 : decode cX12_meet 36 = .ok (.iload_n 3, 1) := by decide +kernel
theorem dX12_meet_37 : decode cX12_meet 37 = .ok (.iconst 0, 1) := by decide +kernel
theorem dX12_meet_38 : decode cX12_meet 38 = .ok (.invokevirtual 386, 3) := by decide +kernel
theorem dX12_meet_41 : decode cX12_meet 41 = .ok (.ireturn, 1) := by decide +kernel
theorem dX12_copies_0 : decode cX12_copies 0 = .ok (.aload_n 0, 1) := by decide +kernel
theorem dX12_copies_1 : decode cX12_copies 1 = .ok (.getfield 129, 3) := by decide +kernel
theorem dX12_copies_4 : decode cX12_copies 4 = .ok (.iload_n 1, 1) := by decide +kernel
theorem dX12_copies_5 : decode cX12_copies 5 = .ok (.aload_n 0, 1) := by decide +kernel
theorem dX12_copies_6 : decode cX12_copies 6 = .ok (.getfield 83, 3) := by decide +kernel
theorem dX12_copies_9 : decode cX12_copies 9 = .ok (.iload_n 2, 1) := by decide +kernel
theorem dX12_copies_10 : decode cX12_copies 10 = .ok (.iaload, 1) := by decide +kernel
theorem dX12_copies_11 : decode cX12_copies 11 = .ok (.iastore, 1) := by decide +kernel
theorem dX12_copies_12 : decode cX12_copies 12 = .ok (.aload_n 0, 1) := by decide +kernel
theorem dX12_copies_13 : decode cX12_copies 13 = .ok (.getfield 132, 3) := by decide +kernel
theorem dX12_copies_16 : decode cX12_copies 16 = .ok (.iload_n 1, 1) := by decide +kernel
theorem dX12_copies_17 : decode cX12_copies 17 = .ok (.aload_n 0, 1) := by decide +kernel
theorem dX12_copies_18 : decode cX12_copies 18 = .ok (.getfield 86, 3) := by decide +kernel
theorem dX12_copies_21 : decode cX12_copies 21 = .ok (.iload_n 2, 1) := by decide +kernel
theorem dX12_copies_22 : decode cX12_copies 22 = .ok (.iaload, 1) := by decide +kernel
theorem dX12_copies_23 : decode cX12_copies 23 = .ok (.iastore, 1) := by decide +kernel
theorem dX12_copies_24 : decode cX12_copies 24 = .ok (.iconst 0, 1) := by decide +kernel
theorem dX12_copies_25 : decode cX12_copies 25 = .ok (.istore_n 3, 1) := by decide +kernel
theorem dX12_copies_26 : decode cX12_copies 26 = .ok (.iload_n 3, 1) := by decide +kernel
theorem dX12_copies_27 : decode cX12_copies 27 = .ok (.bipush 16, 2) := by decide +kernel
theorem dX12_copies_29 : decode cX12_copies 29 = .ok (.if_icmp .ge 53, 3) := by decide +kernel
theorem dX12_copies_32 : decode cX12_copies 32 = .ok (.aload_n 0, 1) := by decide +kernel
theorem dX12_copies_33 : decode cX12_copies 33 = .ok (.getfield 135, 3) := by decide +kernel
theorem dX12_copies_36 : decode cX12_copies 36 = .ok (.bipush 16, 2) := by decide +kernel
theorem dX12_copies_38 : decode cX12_copies 38 = .ok (.iload_n 1, 1) := by decide +kernel
theorem dX12_copies_39 : decode cX12_copies 39 = .ok (.imul, 1) := by decide +kernel
theorem dX12_copies_40 : decode cX12_copies 40 = .ok (.iload_n 3, 1) := by decide +kernel
theorem dX12_copies_41 : decode cX12_copies 41 = .ok (.iadd, 1) := by decide +kernel
theorem dX12_copies_42 : decode cX12_copies 42 = .ok (.aload_n 0, 1) := by decide +kernel
theorem dX12_copies_43 : decode cX12_copies 43 = .ok (.getfield 89, 3) := by decide +kernel
theorem dX12_copies_46 : decode cX12_copies 46 = .ok (.bipush 16, 2) := by decide +kernel
theorem dX12_copies_48 : decode cX12_copies 48 = .ok (.iload_n 2, 1) := by decide +kernel
theorem dX12_copies_49 : decode cX12_copies 49 = .ok (.imul, 1) := by decide +kernel
theorem dX12_copies_50 : decode cX12_copies 50 = .ok (.iload_n 3, 1) := by decide +kernel
theorem dX12_copies_51 : decode cX12_copies 51 = .ok (.iadd, 1) := by decide +kernel
theorem dX12_copies_52 : decode cX12_copies 52 = .ok (.iaload, 1) := by decide +kernel
theorem dX12_copies_53 : decode cX12_copies 53 = .ok (.iastore, 1) := by decide +kernel
theorem dX12_copies_54 : decode cX12_copies 54 = .ok (.aload_n 0, 1) := by decide +kernel
theorem dX12_copies_55 : decode cX12_copies 55 = .ok (.getfield 138, 3) := by decide +kernel
theorem dX12_copies_58 : decode cX12_copies 58 = .ok (.bipush 16, 2) := by decide +kernel
theorem dX12_copies_60 : decode cX12_copies 60 = .ok (.iload_n 1, 1) := by decide +kernel
theorem dX12_copies_61 : decode cX12_copies 61 = .ok (.imul, 1) := by decide +kernel
theorem dX12_copies_62 : decode cX12_copies 62 = .ok (.iload_n 3, 1) := by decide +kernel
theorem dX12_copies_63 : decode cX12_copies 63 = .ok (.iadd, 1) := by decide +kernel
theorem dX12_copies_64 : decode cX12_copies 64 = .ok (.aload_n 0, 1) := by decide +kernel
theorem dX12_copies_65 : decode cX12_copies 65 = .ok (.getfield 89, 3) := by decide +kernel
theorem dX12_copies_68 : decode cX12_copies 68 = .ok (.bipush 16, 2) := by decide +kernel
theorem dX12_copies_70 : decode cX12_copies 70 = .ok (.iload_n 2, 1) := by decide +kernel
theorem dX12_copies_71 : decode cX12_copies 71 = .ok (.imul, 1) := by decide +kernel
theorem dX12_copies_72 : decode cX12_copies 72 = .ok (.iload_n 3, 1) := by decide +kernel
theorem dX12_copies_73 : decode cX12_copies 73 = .ok (.iadd, 1) := by decide +kernel
theorem dX12_copies_74 : decode cX12_copies 74 = .ok (.iaload, 1) := by decide +kernel
theorem dX12_copies_75 : decode cX12_copies 75 = .ok (.iastore, 1) := by decide +kernel
theorem dX12_copies_76 : decode cX12_copies 76 = .ok (.iinc 3 1, 3) := by decide +kernel
theorem dX12_copies_79 : decode cX12_copies 79 = .ok (.goto (-53), 3) := by decide +kernel
theorem dX12_copies_82 : decode cX12_copies 82 = .ok (.return_, 1) := by decide +kernel
theorem dX12_load_0 : decode cX12_load 0 = .ok (.aload_n 0, 1) := by decide +kernel
theorem dX12_load_1 : decode cX12_load 1 = .ok (.getfield 120, 3) := by decide +kernel
theorem dX12_load_4 : decode cX12_load 4 = .ok (.iload_n 1, 1) := by decide +kernel
theorem dX12_load_5 : decode cX12_load 5 = .ok (.iaload, 1) := by decide +kernel
theorem dX12_load_6 : decode cX12_load 6 = .ok (.ifCond .eq 4, 3) := by decide +kernel
theorem dX12_load_9 : decode cX12_load 9 = .ok (.return_, 1) := by decide +kernel
theorem dX12_load_10 : decode cX12_load 10 = .ok (.aload_n 0, 1) := by decide +kernel
theorem dX12_load_11 : decode cX12_load 11 = .ok (.aload_n 0, 1) := by decide +kernel
theorem dX12_load_12 : decode cX12_load 12 = .ok (.getfield 123, 3) := by decide +kernel
theorem dX12_load_15 : decode cX12_load 15 = .ok (.iload_n 1, 1) := by decide +kernel
theorem dX12_load_16 : decode cX12_load 16 = .ok (.iaload, 1) := by decide +kernel
theorem dX12_load_17 : decode cX12_load 17 = .ok (.aload_n 0, 1) := by decide +kernel
theorem dX12_load_18 : decode cX12_load 18 = .ok (.getfield 126, 3) := by decide +kernel
theorem dX12_load_21 : decode cX12_load 21 = .ok (.iload_n 1, 1) := by decide +kernel
theorem dX12_load_22 : decode cX12_load 22 = .ok (.iaload, 1) := by decide +kernel
theorem dX12_load_23 : decode cX12_load 23 = .ok (.invokevirtual 369, 3) := by decide +kernel
theorem dX12_load_26 : decode cX12_load 26 = .ok (.istore_n 2, 1) := by decide +kernel
theorem dX12_load_27 : decode cX12_load 27 = .ok (.iload_n 2, 1) := by decide +kernel
theorem dX12_load_28 : decode cX12_load 28 = .ok (.ifCond .ge 11, 3) := by decide +kernel
theorem dX12_load_31 : decode cX12_load 31 = .ok (.aload_n 0, 1) := by decide +kernel
theorem dX12_load_32 : decode cX12_load 32 = .ok (.getfield 120, 3) := by decide +kernel
theorem dX12_load_35 : decode cX12_load 35 = .ok (.iload_n 1, 1) := by decide +kernel
theorem dX12_load_36 : decode cX12_load 36 = .ok (.iconst 4, 1) := by decide +kernel
theorem dX12_load_37 : decode cX12_load 37 = .ok (.iastore, 1) := by decide +kernel
theorem dX12_load_38 : decode cX12_load 38 = .ok (.return_, 1) := by decide +kernel
theorem dX12_load_39 : decode cX12_load 39 = .ok (.aload_n 0, 1) := by decide +kernel
theorem dX12_load_40 : decode cX12_load 40 = .ok (.getfield 120, 3) := by decide +kernel
theorem dX12_load_43 : decode cX12_load 43 = .ok (.iload_n 1, 1) := by decide +kernel
theorem dX12_load_44 : decode cX12_load 44 = .ok (.iconst 1, 1) := by decide +kernel
theorem dX12_load_45 : decode cX12_load 45 = .ok (.iastore, 1) := by decide +kernel
theorem dX12_load_46 : decode cX12_load 46 = .ok (.aload_n 0, 1) := by decide +kernel
theorem dX12_load_47 : decode cX12_load 47 = .ok (.getfield 117, 3) := by decide +kernel
theorem dX12_load_50 : decode cX12_load 50 = .ok (.iload_n 1, 1) := by decide +kernel
theorem dX12_load_51 : decode cX12_load 51 = .ok (.bipush 60, 2) := by decide +kernel
theorem dX12_load_53 : decode cX12_load 53 = .ok (.idiv, 1) := by decide +kernel
theorem dX12_load_54 : decode cX12_load 54 = .ok (.dup2, 1) := by decide +kernel
theorem dX12_load_55 : decode cX12_load 55 = .ok (.iaload, 1) := by decide +kernel
theorem dX12_load_56 : decode cX12_load 56 = .ok (.iconst 1, 1) := by decide +kernel
theorem dX12_load_57 : decode cX12_load 57 = .ok (.iadd, 1) := by decide +kernel
theorem dX12_load_58 : decode cX12_load 58 = .ok (.iastore, 1) := by decide +kernel
theorem dX12_load_59 : decode cX12_load 59 = .ok (.aload_n 0, 1) := by decide +kernel
theorem dX12_load_60 : decode cX12_load 60 = .ok (.iload_n 1, 1) := by decide +kernel
theorem dX12_load_61 : decode cX12_load 61 = .ok (.iload_n 2, 1) := by decide +kernel
theorem dX12_load_62 : decode cX12_load 62 = .ok (.invokevirtual 390, 3) := by decide +kernel
theorem dX12_load_65 : decode cX12_load 65 = .ok (.return_, 1) := by decide +kernel
theorem dX12_isLive_0 : decode cX12_isLive 0 = .ok (.aload_n 0, 1) := by decide +kernel
theorem dX12_isLive_1 : decode cX12_isLive 1 = .ok (.getfield 120, 3) := by decide +kernel
theorem dX12_isLive_4 : decode cX12_isLive 4 = .ok (.iload_n 1, 1) := by decide +kernel
theorem dX12_isLive_5 : decode cX12_isLive 5 = .ok (.iaload, 1) := by decide +kernel
theorem dX12_isLive_6 : decode cX12_isLive 6 = .ok (.iconst 1, 1) := by decide +kernel
theorem dX12_isLive_7 : decode cX12_isLive 7 = .ok (.if_icmp .eq 13, 3) := by decide +kernel
theorem dX12_isLive_10 : decode cX12_isLive 10 = .ok (.aload_n 0, 1) := by decide +kernel
theorem dX12_isLive_11 : decode cX12_isLive 11 = .ok (.getfield 120, 3) := by decide +kernel
theorem dX12_isLive_14 : decode cX12_isLive 14 = .ok (.iload_n 1, 1) := by decide +kernel
theorem dX12_isLive_15 : decode cX12_isLive 15 = .ok (.iaload, 1) := by decide +kernel
theorem dX12_isLive_16 : decode cX12_isLive 16 = .ok (.iconst 2, 1) := by decide +kernel
theorem dX12_isLive_17 : decode cX12_isLive 17 = .ok (.if_icmp .ne 7, 3) := by decide +kernel
theorem dX12_isLive_20 : decode cX12_isLive 20 = .ok (.iconst 1, 1) := by decide +kernel
theorem dX12_isLive_21 : decode cX12_isLive 21 = .ok (.goto 4, 3) := by decide +kernel
theorem dX12_isLive_24 : decode cX12_isLive 24 = .ok (.iconst 0, 1) := by decide +kernel
theorem dX12_isLive_25 : decode cX12_isLive 25 = .ok (.ireturn, 1) := by decide +kernel
theorem dX12_liveOf_0 : decode cX12_liveOf 0 = .ok (.aload_n 0, 1) := by decide +kernel
theorem dX12_liveOf_1 : decode cX12_liveOf 1 = .ok (.iload_n 1, 1) := by decide +kernel
theorem dX12_liveOf_2 : decode cX12_liveOf 2 = .ok (.invokevirtual 393, 3) := by decide +kernel
theorem dX12_liveOf_5 : decode cX12_liveOf 5 = .ok (.istore_n 2, 1) := by decide +kernel
theorem dX12_liveOf_6 : decode cX12_liveOf 6 = .ok (.iload_n 2, 1) := by decide +kernel
theorem dX12_liveOf_7 : decode cX12_liveOf 7 = .ok (.ifCond .ge 5, 3) := by decide +kernel
theorem dX12_liveOf_10 : decode cX12_liveOf 10 = .ok (.iconst (-1), 1) := by decide +kernel
theorem dX12_liveOf_11 : decode cX12_liveOf 11 = .ok (.ireturn, 1) := by decide +kernel
theorem dX12_liveOf_12 : decode cX12_liveOf 12 = .ok (.aload_n 0, 1) := by decide +kernel
theorem dX12_liveOf_13 : decode cX12_liveOf 13 = .ok (.iload_n 2, 1) := by decide +kernel
theorem dX12_liveOf_14 : decode cX12_liveOf 14 = .ok (.invokevirtual 396, 3) := by decide +kernel
theorem dX12_liveOf_17 : decode cX12_liveOf 17 = .ok (.aload_n 0, 1) := by decide +kernel
theorem dX12_liveOf_18 : decode cX12_liveOf 18 = .ok (.iload_n 2, 1) := by decide +kernel
theorem dX12_liveOf_19 : decode cX12_liveOf 19 = .ok (.invokevirtual 400, 3) := by decide +kernel
theorem dX12_liveOf_22 : decode cX12_liveOf 22 = .ok (.ifCond .eq 7, 3) := by decide +kernel
theorem dX12_liveOf_25 : decode cX12_liveOf 25 = .ok (.iload_n 2, 1) := by decide +kernel
theorem dX12_liveOf_26 : decode cX12_liveOf 26 = .ok (.goto 4, 3) := by decide +kernel
theorem dX12_liveOf_29 : decode cX12_liveOf 29 = .ok (.iconst (-1), 1) := by decide +kernel
theorem dX12_liveOf_30 : decode cX12_liveOf 30 = .ok (.ireturn, 1) := by decide +kernel
theorem dX12_make_0 : decode cX12_make 0 = .ok (.aload_n 0, 1) := by decide +kernel
theorem dX12_make_1 : decode cX12_make 1 = .ok (.iload_n 1, 1) := by decide +kernel
theorem dX12_make_2 : decode cX12_make 2 = .ok (.invokevirtual 380, 3) := by decide +kernel
theorem dX12_make_5 : decode cX12_make 5 = .ok (.ifCond .eq 11, 3) := by decide +kernel
theorem dX12_make_8 : decode cX12_make 8 = .ok (.aload_n 0, 1) := by decide +kernel
theorem dX12_make_9 : decode cX12_make 9 = .ok (.iload_n 2, 1) := by decide +kernel
theorem dX12_make_10 : decode cX12_make 10 = .ok (.invokevirtual 350, 3) := by decide +kernel
theorem dX12_make_13 : decode cX12_make 13 = .ok (.ifCond .ne 5, 3) := by decide +kernel
theorem dX12_make_16 : decode cX12_make 16 = .ok (.iconst (-1), 1) := by decide +kernel
theorem dX12_make_17 : decode cX12_make 17 = .ok (.ireturn, 1) := by decide +kernel
theorem dX12_make_18 : decode cX12_make 18 = .ok (.aload_n 0, 1) := by decide +kernel
theorem dX12_make_19 : decode cX12_make 19 = .ok (.getfield 114, 3) := by decide +kernel
theorem dX12_make_22 : decode cX12_make 22 = .ok (.iload_n 1, 1) := by decide +kernel
theorem dX12_make_23 : decode cX12_make 23 = .ok (.iaload, 1) := by decide +kernel
theorem dX12_make_24 : decode cX12_make 24 = .ok (.bipush 60, 2) := by decide +kernel
theorem dX12_make_26 : decode cX12_make 26 = .ok (.if_icmp .ne 6, 3) := by decide +kernel
theorem dX12_make_29 : decode cX12_make 29 = .ok (.bipush (-2), 2) := by decide +kernel
theorem dX12_make_31 : decode cX12_make 31 = .ok (.ireturn, 1) := by decide +kernel
theorem dX12_make_32 : decode cX12_make 32 = .ok (.aload_n 0, 1) := by decide +kernel
theorem dX12_make_33 : decode cX12_make 33 = .ok (.iload_n 2, 1) := by decide +kernel
theorem dX12_make_34 : decode cX12_make 34 = .ok (.invokevirtual 353, 3) := by decide +kernel
theorem dX12_make_37 : decode cX12_make 37 = .ok (.istore_n 3, 1) := by decide +kernel
theorem dX12_make_38 : decode cX12_make 38 = .ok (.aload_n 0, 1) := by decide +kernel
theorem dX12_make_39 : decode cX12_make 39 = .ok (.getfield 92, 3) := by decide +kernel
theorem dX12_make_42 : decode cX12_make 42 = .ok (.iload_n 3, 1) := by decide +kernel
theorem dX12_make_43 : decode cX12_make 43 = .ok (.dup2, 1) := by decide +kernel
theorem dX12_make_44 : decode cX12_make 44 = .ok (.iaload, 1) := by decide +kernel
theorem dX12_make_45 : decode cX12_make 45 = .ok (.iconst 1, 1) := by decide +kernel
theorem dX12_make_46 : decode cX12_make 46 = .ok (.iadd, 1) := by decide +kernel
theorem dX12_make_47 : decode cX12_make 47 = .ok (.iastore, 1) := by decide +kernel
theorem dX12_make_48 : decode cX12_make 48 = .ok (.aload_n 0, 1) := by decide +kernel
theorem dX12_make_49 : decode cX12_make 49 = .ok (.iload_n 1, 1) := by decide +kernel
theorem dX12_make_50 : decode cX12_make 50 = .ok (.iload_n 3, 1) := by decide +kernel
theorem dX12_make_51 : decode cX12_make 51 = .ok (.aload_n 0, 1) := by decide +kernel
theorem dX12_make_52 : decode cX12_make 52 = .ok (.getfield 92, 3) := by decide +kernel
theorem dX12_make_55 : decode cX12_make 55 = .ok (.iload_n 3, 1) := by decide +kernel
theorem dX12_make_56 : decode cX12_make 56 = .ok (.iaload, 1) := by decide +kernel
theorem dX12_make_57 : decode cX12_make 57 = .ok (.iconst 2, 1) := by decide +kernel
theorem dX12_make_58 : decode cX12_make 58 = .ok (.invokevirtual 386, 3) := by decide +kernel
theorem dX12_make_61 : decode cX12_make 61 = .ok (.istore 4, 2) := by decide +kernel
theorem dX12_make_63 : decode cX12_make 63 = .ok (.aload_n 0, 1) := by decide +kernel
theorem dX12_make_64 : decode cX12_make 64 = .ok (.getfield 129, 3) := by decide +kernel
theorem dX12_make_67 : decode cX12_make 67 = .ok (.iload 4, 2) := by decide +kernel
theorem dX12_make_69 : decode cX12_make 69 = .ok (.iload_n 2, 1) := by decide +kernel
theorem dX12_make_70 : decode cX12_make 70 = .ok (.iastore, 1) := by decide +kernel
theorem dX12_make_71 : decode cX12_make 71 = .ok (.iload 4, 2) := by decide +kernel
theorem dX12_make_73 : decode cX12_make 73 = .ok (.invokestatic 403, 3) := by decide +kernel
theorem dX12_make_76 : decode cX12_make 76 = .ok (.ireturn, 1) := by decide +kernel
theorem dX12_find_0 : decode cX12_find 0 = .ok (.aload_n 0, 1) := by decide +kernel
theorem dX12_find_1 : decode cX12_find 1 = .ok (.iload_n 1, 1) := by decide +kernel
theorem dX12_find_2 : decode cX12_find 2 = .ok (.invokevirtual 380, 3) := by decide +kernel
theorem dX12_find_5 : decode cX12_find 5 = .ok (.ifCond .eq 11, 3) := by decide +kernel
theorem dX12_find_8 : decode cX12_find 8 = .ok (.aload_n 0, 1) := by decide +kernel
theorem dX12_find_9 : decode cX12_find 9 = .ok (.iload_n 2, 1) := by decide +kernel
theorem dX12_find_10 : decode cX12_find 10 = .ok (.invokevirtual 350, 3) := by decide +kernel
theorem dX12_find_13 : decode cX12_find 13 = .ok (.ifCond .ne 5, 3) := by decide +kernel
theorem dX12_find_16 : decode cX12_find 16 = .ok (.iconst (-1), 1) := by decide +kernel
theorem dX12_find_17 : decode cX12_find 17 = .ok (.ireturn, 1) := by decide +kernel
theorem dX12_find_18 : decode cX12_find 18 = .ok (.aload_n 0, 1) := by decide +kernel
theorem dX12_find_19 : decode cX12_find 19 = .ok (.iload_n 2, 1) := by decide +kernel
theorem dX12_find_20 : decode cX12_find 20 = .ok (.invokevirtual 353, 3) := by decide +kernel
theorem dX12_find_23 : decode cX12_find 23 = .ok (.istore 4, 2) := by decide +kernel
theorem dX12_find_25 : decode cX12_find 25 = .ok (.aload_n 0, 1) := by decide +kernel
theorem dX12_find_26 : decode cX12_find 26 = .ok (.iload_n 1, 1) := by decide +kernel
theorem dX12_find_27 : decode cX12_find 27 = .ok (.iload 4, 2) := by decide +kernel
theorem dX12_find_29 : decode cX12_find 29 = .ok (.iload_n 3, 1) := by decide +kernel
theorem dX12_find_30 : decode cX12_find 30 = .ok (.invokevirtual 383, 3) := by decide +kernel
theorem dX12_find_33 : decode cX12_find 33 = .ok (.istore 5, 2) := by decide +kernel
theorem dX12_find_35 : decode cX12_find 35 = .ok (.iload 5, 2) := by decide +kernel
theorem dX12_find_37 : decode cX12_find 37 = .ok (.ifCond .lt 48, 3) := by decide +kernel
theorem dX12_find_40 : decode cX12_find 40 = .ok (.aload_n 0, 1) := by decide +kernel
theorem dX12_find_41 : decode cX12_find 41 = .ok (.getfield 120, 3) := by decide +kernel
theorem dX12_find_44 : decode cX12_find 44 = .ok (.iload 5, 2) := by decide +kernel
theorem dX12_find_46 : decode cX12_find 46 = .ok (.iaload, 1) := by decide +kernel
theorem dX12_find_47 : decode cX12_find 47 = .ok (.ifCond .eq 38, 3) := by decide +kernel
theorem dX12_find_50 : decode cX12_find 50 = .ok (.aload_n 0, 1) := by decide +kernel
theorem dX12_find_51 : decode cX12_find 51 = .ok (.iload 5, 2) := by decide +kernel
theorem dX12_find_53 : decode cX12_find 53 = .ok (.invokevirtual 400, 3) := by decide +kernel
theorem dX12_find_56 : decode cX12_find 56 = .ok (.ifCond .eq 27, 3) := by decide +kernel
theorem dX12_find_59 : decode cX12_find 59 = .ok (.aload_n 0, 1) := by decide +kernel
theorem dX12_find_60 : decode cX12_find 60 = .ok (.iconst 0, 1) := by decide +kernel
theorem dX12_find_61 : decode cX12_find 61 = .ok (.aload_n 0, 1) := by decide +kernel
theorem dX12_find_62 : decode cX12_find 62 = .ok (.getfield 129, 3) := by decide +kernel
theorem dX12_find_65 : decode cX12_find 65 = .ok (.iload 5, 2) := by decide +kernel
theorem dX12_find_67 : decode cX12_find 67 = .ok (.iaload, 1) := by decide +kernel
theorem dX12_find_68 : decode cX12_find 68 = .ok (.iload_n 2, 1) := by decide +kernel
theorem dX12_find_69 : decode cX12_find 69 = .ok (.invokevirtual 315, 3) := by decide +kernel
theorem dX12_find_72 : decode cX12_find 72 = .ok (.ifCond .eq 11, 3) := by decide +kernel
theorem dX12_find_75 : decode cX12_find 75 = .ok (.iload 5, 2) := by decide +kernel
theorem dX12_find_77 : decode cX12_find 77 = .ok (.invokestatic 403, 3) := by decide +kernel
theorem dX12_find_80 : decode cX12_find 80 = .ok (.goto 4, 3) := by decide +kernel
theorem dX12_find_83 : decode cX12_find 83 = .ok (.iconst (-1), 1) := by decide +kernel
theorem dX12_find_84 : decode cX12_find 84 = .ok (.ireturn, 1) := by decide +kernel
theorem dX12_find_85 : decode cX12_find 85 = .ok (.aload_n 0, 1) := by decide +kernel
theorem dX12_find_86 : decode cX12_find 86 = .ok (.iload 4, 2) := by decide +kernel
theorem dX12_find_88 : decode cX12_find 88 = .ok (.iload_n 3, 1) := by decide +kernel
theorem dX12_find_89 : decode cX12_find 89 = .ok (.invokevirtual 369, 3) := by decide +kernel
theorem dX12_find_92 : decode cX12_find 92 = .ok (.istore 6, 2) := by decide +kernel
theorem dX12_find_94 : decode cX12_find 94 = .ok (.iload 6, 2) := by decide +kernel
theorem dX12_find_96 : decode cX12_find 96 = .ok (.ifCond .lt 19, 3) := by decide +kernel
theorem dX12_find_99 : decode cX12_find 99 = .ok (.aload_n 0, 1) := by decide +kernel
theorem dX12_find_100 : decode cX12_find 100 = .ok (.iconst 0, 1) := by decide +kernel
theorem dX12_find_101 : decode cX12_find 101 = .ok (.aload_n 0, 1) := by decide +kernel
theorem dX12_find_102 : decode cX12_find 102 = .ok (.getfield 83, 3) := by decide +kernel
theorem dX12_find_105 : decode cX12_find 105 = .ok (.iload 6, 2) := by decide +kernel
theorem dX12_find_107 : decode cX12_find 107 = .ok (.iaload, 1) := by decide +kernel
theorem dX12_find_108 : decode cX12_find 108 = .ok (.iload_n 2, 1) := by decide +kernel
theorem dX12_find_109 : decode cX12_find 109 = .ok (.invokevirtual 315, 3) := by decide +kernel
theorem dX12_find_112 : decode cX12_find 112 = .ok (.ifCond .ne 5, 3) := by decide +kernel
theorem dX12_find_115 : decode cX12_find 115 = .ok (.iconst (-1), 1) := by decide +kernel
theorem dX12_find_116 : decode cX12_find 116 = .ok (.ireturn, 1) := by decide +kernel
theorem dX12_find_117 : decode cX12_find 117 = .ok (.aload_n 0, 1) := by decide +kernel
theorem dX12_find_118 : decode cX12_find 118 = .ok (.iload_n 1, 1) := by decide +kernel
theorem dX12_find_119 : decode cX12_find 119 = .ok (.iload 4, 2) := by decide +kernel
theorem dX12_find_121 : decode cX12_find 121 = .ok (.iload_n 3, 1) := by decide +kernel
theorem dX12_find_122 : decode cX12_find 122 = .ok (.invokevirtual 406, 3) := by decide +kernel
theorem dX12_find_125 : decode cX12_find 125 = .ok (.istore 5, 2) := by decide +kernel
theorem dX12_find_127 : decode cX12_find 127 = .ok (.iload 5, 2) := by decide +kernel
theorem dX12_find_129 : decode cX12_find 129 = .ok (.ifCond .ge 6, 3) := by decide +kernel
theorem dX12_find_132 : decode cX12_find 132 = .ok (.bipush (-2), 2) := by decide +kernel
theorem dX12_find_134 : decode cX12_find 134 = .ok (.ireturn, 1) := by decide +kernel
theorem dX12_find_135 : decode cX12_find 135 = .ok (.aload_n 0, 1) := by decide +kernel
theorem dX12_find_136 : decode cX12_find 136 = .ok (.iload 5, 2) := by decide +kernel
theorem dX12_find_138 : decode cX12_find 138 = .ok (.invokevirtual 396, 3) := by decide +kernel
theorem dX12_find_141 : decode cX12_find 141 = .ok (.iload 5, 2) := by decide +kernel
theorem dX12_find_143 : decode cX12_find 143 = .ok (.invokestatic 403, 3) := by decide +kernel
theorem dX12_find_146 : decode cX12_find 146 = .ok (.ireturn, 1) := by decide +kernel
theorem dX12_object_0 : decode cX12_object 0 = .ok (.aload_n 0, 1) := by decide +kernel
theorem dX12_object_1 : decode cX12_object 1 = .ok (.iload_n 1, 1) := by decide +kernel
theorem dX12_object_2 : decode cX12_object 2 = .ok (.invokevirtual 393, 3) := by decide +kernel
theorem dX12_object_5 : decode cX12_object 5 = .ok (.istore_n 3, 1) := by decide +kernel
theorem dX12_object_6 : decode cX12_object 6 = .ok (.iload_n 3, 1) := by decide +kernel
theorem dX12_object_7 : decode cX12_object 7 = .ok (.ifCond .lt 12, 3) := by decide +kernel
theorem dX12_object_10 : decode cX12_object 10 = .ok (.iload_n 2, 1) := by decide +kernel
theorem dX12_object_11 : decode cX12_object 11 = .ok (.ifCond .lt 8, 3) := by decide +kernel
theorem dX12_object_14 : decode cX12_object 14 = .ok (.iload_n 2, 1) := by decide +kernel
theorem dX12_object_15 : decode cX12_object 15 = .ok (.iconst 3, 1) := by decide +kernel
theorem dX12_object_16 : decode cX12_object 16 = .ok (.if_icmp .le 5, 3) := by decide +kernel
theorem dX12_object_19 : decode cX12_object 19 = .ok (.iconst (-1), 1) := by decide +kernel
theorem dX12_object_20 : decode cX12_object 20 = .ok (.ireturn, 1) := by decide +kernel
theorem dX12_object_21 : decode cX12_object 21 = .ok (.iload_n 2, 1) := by decide +kernel
theorem dX12_object_22 : decode cX12_object 22 = .ok (.ifCond .ne 10, 3) := by decide +kernel
theorem dX12_object_25 : decode cX12_object 25 = .ok (.aload_n 0, 1) := by decide +kernel
theorem dX12_object_26 : decode cX12_object 26 = .ok (.getfield 120, 3) := by decide +kernel
theorem dX12_object_29 : decode cX12_object 29 = .ok (.iload_n 3, 1) := by decide +kernel
theorem dX12_object_30 : decode cX12_object 30 = .ok (.iaload, 1) := by decide +kernel
theorem dX12_object_31 : decode cX12_object 31 = .ok (.ireturn, 1) := by decide +kernel
theorem dX12_object_32 : decode cX12_object 32 = .ok (.iload_n 2, 1) := by decide +kernel
theorem dX12_object_33 : decode cX12_object 33 = .ok (.iconst 1, 1) := by decide +kernel
theorem dX12_object_34 : decode cX12_object 34 = .ok (.if_icmp .ne 10, 3) := by decide +kernel
theorem dX12_object_37 : decode cX12_object 37 = .ok (.aload_n 0, 1) := by decide +kernel
theorem dX12_object_38 : decode cX12_object 38 = .ok (.getfield 126, 3) := by decide +kernel
theorem dX12_object_41 : decode cX12_object 41 = .ok (.iload_n 3, 1) := by decide +kernel
theorem dX12_object_42 : decode cX12_object 42 = .ok (.iaload, 1) := by decide +kernel
theorem dX12_object_43 : decode cX12_object 43 = .ok (.ireturn, 1) := by decide +kernel
theorem dX12_object_44 : decode cX12_object 44 = .ok (.aload_n 0, 1) := by decide +kernel
theorem dX12_object_45 : decode cX12_object 45 = .ok (.iload_n 3, 1) := by decide +kernel
theorem dX12_object_46 : decode cX12_object 46 = .ok (.invokevirtual 396, 3) := by decide +kernel
theorem dX12_object_49 : decode cX12_object 49 = .ok (.aload_n 0, 1) := by decide +kernel
theorem dX12_object_50 : decode cX12_object 50 = .ok (.getfield 120, 3) := by decide +kernel
theorem dX12_object_53 : decode cX12_object 53 = .ok (.iload_n 3, 1) := by decide +kernel
theorem dX12_object_54 : decode cX12_object 54 = .ok (.iaload, 1) := by decide +kernel
theorem dX12_object_55 : decode cX12_object 55 = .ok (.iconst 4, 1) := by decide +kernel
theorem dX12_object_56 : decode cX12_object 56 = .ok (.if_icmp .ne 5, 3) := by decide +kernel
theorem dX12_object_59 : decode cX12_object 59 = .ok (.iconst (-1), 1) := by decide +kernel
theorem dX12_object_60 : decode cX12_object 60 = .ok (.ireturn, 1) := by decide +kernel
theorem dX12_object_61 : decode cX12_object 61 = .ok (.iload_n 2, 1) := by decide +kernel
theorem dX12_object_62 : decode cX12_object 62 = .ok (.iconst 2, 1) := by decide +kernel
theorem dX12_object_63 : decode cX12_object 63 = .ok (.if_icmp .ne 12, 3) := by decide +kernel
theorem dX12_object_66 : decode cX12_object 66 = .ok (.aload_n 0, 1) := by decide +kernel
theorem dX12_object_67 : decode cX12_object 67 = .ok (.getfield 129, 3) := by decide +kernel
theorem dX12_object_70 : decode cX12_object 70 = .ok (.iload_n 3, 1) := by decide +kernel
theorem dX12_object_71 : decode cX12_object 71 = .ok (.iaload, 1) := by decide +kernel
theorem dX12_object_72 : decode cX12_object 72 = .ok (.goto 23, 3) := by decide +kernel
theorem dX12_object_75 : decode cX12_object 75 = .ok (.aload_n 0, 1) := by decide +kernel
theorem dX12_object_76 : decode cX12_object 76 = .ok (.getfield 120, 3) := by decide +kernel
theorem dX12_object_79 : decode cX12_object 79 = .ok (.iload_n 3, 1) := by decide +kernel
theorem dX12_object_80 : decode cX12_object 80 = .ok (.iaload, 1) := by decide +kernel
theorem dX12_object_81 : decode cX12_object 81 = .ok (.iconst 2, 1) := by decide +kernel
theorem dX12_object_82 : decode cX12_object 82 = .ok (.if_icmp .ne 7, 3) := by decide +kernel
theorem dX12_object_85 : decode cX12_object 85 = .ok (.iconst 0, 1) := by decide +kernel
theorem dX12_object_86 : decode cX12_object 86 = .ok (.goto 9, 3) := by decide +kernel
theorem dX12_object_89 : decode cX12_object 89 = .ok (.aload_n 0, 1) := by decide +kernel
theorem dX12_object_90 : decode cX12_object 90 = .ok (.getfield 132, 3) := by decide +kernel
theorem dX12_object_93 : decode cX12_object 93 = .ok (.iload_n 3, 1) := by decide +kernel
theorem dX12_object_94 : decode cX12_object 94 = .ok (.iaload, 1) := by decide +kernel
theorem dX12_object_95 : decode cX12_object 95 = .ok (.ireturn, 1) := by decide +kernel
theorem dX12_value_0 : decode cX12_value 0 = .ok (.aload_n 0, 1) := by decide +kernel
theorem dX12_value_1 : decode cX12_value 1 = .ok (.iload_n 1, 1) := by decide +kernel
theorem dX12_value_2 : decode cX12_value 2 = .ok (.invokevirtual 409, 3) := by decide +kernel
theorem dX12_value_5 : decode cX12_value 5 = .ok (.istore_n 3, 1) := by decide +kernel
theorem dX12_value_6 : decode cX12_value 6 = .ok (.iload_n 3, 1) := by decide +kernel
theorem dX12_value_7 : decode cX12_value 7 = .ok (.ifCond .lt 22, 3) := by decide +kernel
theorem dX12_value_10 : decode cX12_value 10 = .ok (.iload_n 2, 1) := by decide +kernel
theorem dX12_value_11 : decode cX12_value 11 = .ok (.ifCond .lt 18, 3) := by decide +kernel
theorem dX12_value_14 : decode cX12_value 14 = .ok (.iload_n 2, 1) := by decide +kernel
theorem dX12_value_15 : decode cX12_value 15 = .ok (.aload_n 0, 1) := by decide +kernel
theorem dX12_value_16 : decode cX12_value 16 = .ok (.getfield 23, 3) := by decide +kernel
theorem dX12_value_19 : decode cX12_value 19 = .ok (.aload_n 0, 1) := by decide +kernel
theorem dX12_value_20 : decode cX12_value 20 = .ok (.getfield 129, 3) := by decide +kernel
theorem dX12_value_23 : decode cX12_value 23 = .ok (.iload_n 3, 1) := by decide +kernel
theorem dX12_value_24 : decode cX12_value 24 = .ok (.iaload, 1) := by decide +kernel
theorem dX12_value_25 : decode cX12_value 25 = .ok (.iaload, 1) := by decide +kernel
theorem dX12_value_26 : decode cX12_value 26 = .ok (.if_icmp .lt 7, 3) := by decide +kernel
theorem dX12_value_29 : decode cX12_value 29 = .ok (.ldc2_w 412, 3) := by decide +kernel
theorem dX12_value_32 : decode cX12_value 32 = .ok (.lreturn, 1) := by decide +kernel
theorem dX12_value_33 : decode cX12_value 33 = .ok (.bipush 16, 2) := by decide +kernel
theorem dX12_value_35 : decode cX12_value 35 = .ok (.aload_n 0, 1) := by decide +kernel
theorem dX12_value_36 : decode cX12_value 36 = .ok (.getfield 129, 3) := by decide +kernel
theorem dX12_value_39 : decode cX12_value 39 = .ok (.iload_n 3, 1) := by decide +kernel
theorem dX12_value_40 : decode cX12_value 40 = .ok (.iaload, 1) := by decide +kernel
theorem dX12_value_41 : decode cX12_value 41 = .ok (.imul, 1) := by decide +kernel
theorem dX12_value_42 : decode cX12_value 42 = .ok (.iload_n 2, 1) := by decide +kernel
theorem dX12_value_43 : decode cX12_value 43 = .ok (.iadd, 1) := by decide +kernel
theorem dX12_value_44 : decode cX12_value 44 = .ok (.istore 4, 2) := by decide +kernel
theorem dX12_value_46 : decode cX12_value 46 = .ok (.aload_n 0, 1) := by decide +kernel
theorem dX12_value_47 : decode cX12_value 47 = .ok (.getfield 135, 3) := by decide +kernel
theorem dX12_value_50 : decode cX12_value 50 = .ok (.bipush 16, 2) := by decide +kernel
theorem dX12_value_52 : decode cX12_value 52 = .ok (.iload_n 3, 1) := by decide +kernel
theorem dX12_value_53 : decode cX12_value 53 = .ok (.imul, 1) := by decide +kernel
theorem dX12_value_54 : decode cX12_value 54 = .ok (.iload_n 2, 1) := by decide +kernel
theorem dX12_value_55 : decode cX12_value 55 = .ok (.iadd, 1) := by decide +kernel
theorem dX12_value_56 : decode cX12_value 56 = .ok (.iaload, 1) := by decide +kernel
theorem dX12_value_57 : decode cX12_value 57 = .ok (.istore 5, 2) := by decide +kernel
theorem dX12_value_59 : decode cX12_value 59 = .ok (.aload_n 0, 1) := by decide +kernel
theorem dX12_value_60 : decode cX12_value 60 = .ok (.getfield 32, 3) := by decide +kernel
theorem dX12_value_63 : decode cX12_value 63 = .ok (.iload 4, 2) := by decide +kernel
theorem dX12_value_65 : decode cX12_value 65 = .ok (.iaload, 1) := by decide +kernel
theorem dX12_value_66 : decode cX12_value 66 = .ok (.iconst 5, 1) := by decide +kernel
theorem dX12_value_67 : decode cX12_value 67 = .ok (.if_icmp .ne 7, 3) := by decide +kernel
theorem dX12_value_70 : decode cX12_value 70 = .ok (.ldc2_w 412, 3) := by decide +kernel
theorem dX12_value_73 : decode cX12_value 73 = .ok (.lreturn, 1) := by decide +kernel
theorem dX12_value_74 : decode cX12_value 74 = .ok (.aload_n 0, 1) := by decide +kernel
theorem dX12_value_75 : decode cX12_value 75 = .ok (.getfield 32, 3) := by decide +kernel
theorem dX12_value_78 : decode cX12_value 78 = .ok (.iload 4, 2) := by decide +kernel
theorem dX12_value_80 : decode cX12_value 80 = .ok (.iaload, 1) := by decide +kernel
theorem dX12_value_81 : decode cX12_value 81 = .ok (.iconst 4, 1) := by decide +kernel
theorem dX12_value_82 : decode cX12_value 82 = .ok (.if_icmp .ge 7, 3) := by decide +kernel
theorem dX12_value_85 : decode cX12_value 85 = .ok (.iload 5, 2) := by decide +kernel
theorem dX12_value_87 : decode cX12_value 87 = .ok (.i2l, 1) := by decide +kernel
theorem dX12_value_88 : decode cX12_value 88 = .ok (.lreturn, 1) := by decide +kernel
theorem dX12_value_89 : decode cX12_value 89 = .ok (.iload 5, 2) := by decide +kernel
theorem dX12_value_91 : decode cX12_value 91 = .ok (.ifCond .ne 7, 3) := by decide +kernel
theorem dX12_value_94 : decode cX12_value 94 = .ok (.ldc2_w 414, 3) := by decide +kernel
theorem dX12_value_97 : decode cX12_value 97 = .ok (.lreturn, 1) := by decide +kernel
theorem dX12_value_98 : decode cX12_value 98 = .ok (.aload_n 0, 1) := by decide +kernel
theorem dX12_value_99 : decode cX12_value 99 = .ok (.iload_n 3, 1) := by decide +kernel
theorem dX12_value_100 : decode cX12_value 100 = .ok (.bipush 60, 2) := by decide +kernel
theorem dX12_value_102 : decode cX12_value 102 = .ok (.idiv, 1) := by decide +kernel
theorem dX12_value_103 : decode cX12_value 103 = .ok (.aload_n 0, 1) := by decide +kernel
theorem dX12_value_104 : decode cX12_value 104 = .ok (.aload_n 0, 1) := by decide +kernel
theorem dX12_value_105 : decode cX12_value 105 = .ok (.getfield 35, 3) := by decide +kernel
theorem dX12_value_108 : decode cX12_value 108 = .ok (.iload 4, 2) := by decide +kernel
theorem dX12_value_110 : decode cX12_value 110 = .ok (.iaload, 1) := by decide +kernel
theorem dX12_value_111 : decode cX12_value 111 = .ok (.invokevirtual 353, 3) := by decide +kernel
theorem dX12_value_114 : decode cX12_value 114 = .ok (.iload 5, 2) := by decide +kernel
theorem dX12_value_116 : decode cX12_value 116 = .ok (.invokevirtual 406, 3) := by decide +kernel
theorem dX12_value_119 : decode cX12_value 119 = .ok (.istore 6, 2) := by decide +kernel
theorem dX12_value_121 : decode cX12_value 121 = .ok (.iload 6, 2) := by decide +kernel
theorem dX12_value_123 : decode cX12_value 123 = .ok (.ifCond .ge 9, 3) := by decide +kernel
theorem dX12_value_126 : decode cX12_value 126 = .ok (.ldc2_w 416, 3) := by decide +kernel
theorem dX12_value_129 : decode cX12_value 129 = .ok (.goto 9, 3) := by decide +kernel
theorem dX12_value_132 : decode cX12_value 132 = .ok (.iload 6, 2) := by decide +kernel
theorem dX12_value_134 : decode cX12_value 134 = .ok (.invokestatic 403, 3) := by decide +kernel
theorem dX12_value_137 : decode cX12_value 137 = .ok (.i2l, 1) := by decide +kernel
theorem dX12_value_138 : decode cX12_value 138 = .ok (.lreturn, 1) := by decide +kernel
theorem dX12_put_0 : decode cX12_put 0 = .ok (.aload_n 0, 1) := by decide +kernel
theorem dX12_put_1 : decode cX12_put 1 = .ok (.iload_n 1, 1) := by decide +kernel
theorem dX12_put_2 : decode cX12_put 2 = .ok (.invokevirtual 409, 3) := by decide +kernel
theorem dX12_put_5 : decode cX12_put 5 = .ok (.istore 4, 2) := by decide +kernel
theorem dX12_put_7 : decode cX12_put 7 = .ok (.iload 4, 2) := by decide +kernel
theorem dX12_put_9 : decode cX12_put 9 = .ok (.ifCond .lt 39, 3) := by decide +kernel
theorem dX12_put_12 : decode cX12_put 12 = .ok (.iload_n 2, 1) := by decide +kernel
theorem dX12_put_13 : decode cX12_put 13 = .ok (.ifCond .lt 35, 3) := by decide +kernel
theorem dX12_put_16 : decode cX12_put 16 = .ok (.iload_n 2, 1) := by decide +kernel
theorem dX12_put_17 : decode cX12_put 17 = .ok (.aload_n 0, 1) := by decide +kernel
theorem dX12_put_18 : decode cX12_put 18 = .ok (.getfield 23, 3) := by decide +kernel
theorem dX12_put_21 : decode cX12_put 21 = .ok (.aload_n 0, 1) := by decide +kernel
theorem dX12_put_22 : decode cX12_put 22 = .ok (.getfield 129, 3) := by decide +kernel
theorem dX12_put_25 : decode cX12_put 25 = .ok (.iload 4, 2) := by decide +kernel
theorem dX12_put_27 : decode cX12_put 27 = .ok (.iaload, 1) := by decide +kernel
theorem dX12_put_28 : decode cX12_put 28 = .ok (.iaload, 1) := by decide +kernel
theorem dX12_put_29 : decode cX12_put 29 = .ok (.if_icmp .ge 19, 3) := by decide +kernel
theorem dX12_put_32 : decode cX12_put 32 = .ok (.aload_n 0, 1) := by decide +kernel
theorem dX12_put_33 : decode cX12_put 33 = .ok (.aload_n 0, 1) := by decide +kernel
theorem dX12_put_34 : decode cX12_put 34 = .ok (.getfield 129, 3) := by decide +kernel
theorem dX12_put_37 : decode cX12_put 37 = .ok (.iload 4, 2) := by decide +kernel
theorem dX12_put_39 : decode cX12_put 39 = .ok (.iaload, 1) := by decide +kernel
theorem dX12_put_40 : decode cX12_put 40 = .ok (.iload_n 2, 1) := by decide +kernel
theorem dX12_put_41 : decode cX12_put 41 = .ok (.iload_n 3, 1) := by decide +kernel
theorem dX12_put_42 : decode cX12_put 42 = .ok (.invokevirtual 418, 3) := by decide +kernel
theorem dX12_put_45 : decode cX12_put 45 = .ok (.ifCond .ne 5, 3) := by decide +kernel
theorem dX12_put_48 : decode cX12_put 48 = .ok (.iconst 0, 1) := by decide +kernel
theorem dX12_put_49 : decode cX12_put 49 = .ok (.ireturn, 1) := by decide +kernel
theorem dX12_put_50 : decode cX12_put 50 = .ok (.aload_n 0, 1) := by decide +kernel
theorem dX12_put_51 : decode cX12_put 51 = .ok (.getfield 135, 3) := by decide +kernel
theorem dX12_put_54 : decode cX12_put 54 = .ok (.bipush 16, 2) := by decide +kernel
theorem dX12_put_56 : decode cX12_put 56 = .ok (.iload 4, 2) := by decide +kernel
theorem dX12_put_58 : decode cX12_put 58 = .ok (.imul, 1) := by decide +kernel
theorem dX12_put_59 : decode cX12_put 59 = .ok (.iload_n 2, 1) := by decide +kernel
theorem dX12_put_60 : decode cX12_put 60 = .ok (.iadd, 1) := by decide +kernel
theorem dX12_put_61 : decode cX12_put 61 = .ok (.iload_n 3, 1) := by decide +kernel
theorem dX12_put_62 : decode cX12_put 62 = .ok (.iastore, 1) := by decide +kernel
theorem dX12_put_63 : decode cX12_put 63 = .ok (.iconst 1, 1) := by decide +kernel
theorem dX12_put_64 : decode cX12_put 64 = .ok (.ireturn, 1) := by decide +kernel
theorem dX12_link_0 : decode cX12_link 0 = .ok (.aload_n 0, 1) := by decide +kernel
theorem dX12_link_1 : decode cX12_link 1 = .ok (.iload_n 1, 1) := by decide +kernel
theorem dX12_link_2 : decode cX12_link 2 = .ok (.invokevirtual 409, 3) := by decide +kernel
theorem dX12_link_5 : decode cX12_link 5 = .ok (.istore 4, 2) := by decide +kernel
theorem dX12_link_7 : decode cX12_link 7 = .ok (.iload 4, 2) := by decide +kernel
theorem dX12_link_9 : decode cX12_link 9 = .ok (.ifCond .lt 23, 3) := by decide +kernel
theorem dX12_link_12 : decode cX12_link 12 = .ok (.iload_n 2, 1) := by decide +kernel
theorem dX12_link_13 : decode cX12_link 13 = .ok (.ifCond .lt 19, 3) := by decide +kernel
theorem dX12_link_16 : decode cX12_link 16 = .ok (.iload_n 2, 1) := by decide +kernel
theorem dX12_link_17 : decode cX12_link 17 = .ok (.aload_n 0, 1) := by decide +kernel
theorem dX12_link_18 : decode cX12_link 18 = .ok (.getfield 23, 3) := by decide +kernel
theorem dX12_link_21 : decode cX12_link 21 = .ok (.aload_n 0, 1) := by decide +kernel
theorem dX12_link_22 : decode cX12_link 22 = .ok (.getfield 129, 3) := by decide +kernel
theorem dX12_link_25 : decode cX12_link 25 = .ok (.iload 4, 2) := by decide +kernel
theorem dX12_link_27 : decode cX12_link 27 = .ok (.iaload, 1) := by decide +kernel
theorem dX12_link_28 : decode cX12_link 28 = .ok (.iaload, 1) := by decide +kernel
theorem dX12_link_29 : decode cX12_link 29 = .ok (.if_icmp .lt 5, 3) := by decide +kernel
theorem dX12_link_32 : decode cX12_link 32 = .ok (.iconst 0, 1) := by decide +kernel
theorem dX12_link_33 : decode cX12_link 33 = .ok (.ireturn, 1) := by decide +kernel
theorem dX12_link_34 : decode cX12_link 34 = .ok (.bipush 16, 2) := by decide +kernel
theorem dX12_link_36 : decode cX12_link 36 = .ok (.aload_n 0, 1) := by decide +kernel
theorem dX12_link_37 : decode cX12_link 37 = .ok (.getfield 129, 3) := by decide +kernel
theorem dX12_link_40 : decode cX12_link 40 = .ok (.iload 4, 2) := by decide +kernel
theorem dX12_link_42 : decode cX12_link 42 = .ok (.iaload, 1) := by decide +kernel
theorem dX12_link_43 : decode cX12_link 43 = .ok (.imul, 1) := by decide +kernel
theorem dX12_link_44 : decode cX12_link 44 = .ok (.iload_n 2, 1) := by decide +kernel
theorem dX12_link_45 : decode cX12_link 45 = .ok (.iadd, 1) := by decide +kernel
theorem dX12_link_46 : decode cX12_link 46 = .ok (.istore 5, 2) := by decide +kernel
theorem dX12_link_48 : decode cX12_link 48 = .ok (.aload_n 0, 1) := by decide +kernel
theorem dX12_link_49 : decode cX12_link 49 = .ok (.getfield 32, 3) := by decide +kernel
theorem dX12_link_52 : decode cX12_link 52 = .ok (.iload 5, 2) := by decide +kernel
theorem dX12_link_54 : decode cX12_link 54 = .ok (.iaload, 1) := by decide +kernel
theorem dX12_link_55 : decode cX12_link 55 = .ok (.iconst 4, 1) := by decide +kernel
theorem dX12_link_56 : decode cX12_link 56 = .ok (.if_icmp .eq 5, 3) := by decide +kernel
theorem dX12_link_59 : decode cX12_link 59 = .ok (.iconst 0, 1) := by decide +kernel
theorem dX12_link_60 : decode cX12_link 60 = .ok (.ireturn, 1) := by decide +kernel
theorem dX12_link_61 : decode cX12_link 61 = .ok (.iload_n 3, 1) := by decide +kernel
theorem dX12_link_62 : decode cX12_link 62 = .ok (.iconst (-1), 1) := by decide +kernel
theorem dX12_link_63 : decode cX12_link 63 = .ok (.if_icmp .ne 18, 3) := by decide +kernel
theorem dX12_link_66 : decode cX12_link 66 = .ok (.aload_n 0, 1) := by decide +kernel
theorem dX12_link_67 : decode cX12_link 67 = .ok (.getfield 135, 3) := by decide +kernel
theorem dX12_link_70 : decode cX12_link 70 = .ok (.bipush 16, 2) := by decide +kernel
theorem dX12_link_72 : decode cX12_link 72 = .ok (.iload 4, 2) := by decide +kernel
theorem dX12_link_74 : decode cX12_link 74 = .ok (.imul, 1) := by decide +kernel
theorem dX12_link_75 : decode cX12_link 75 = .ok (.iload_n 2, 1) := by decide +kernel
theorem dX12_link_76 : decode cX12_link 76 = .ok (.iadd, 1) := by decide +kernel
theorem dX12_link_77 : decode cX12_link 77 = .ok (.iconst 0, 1) := by decide +kernel
theorem dX12_link_78 : decode cX12_link 78 = .ok (.iastore, 1) := by decide +kernel
theorem dX12_link_79 : decode cX12_link 79 = .ok (.iconst 1, 1) := by decide +kernel
theorem dX12_link_80 : decode cX12_link 80 = .ok (.ireturn, 1) := by decide +kernel
theorem dX12_link_81 : decode cX12_link 81 = .ok (.aload_n 0, 1) := by decide +kernel
theorem dX12_link_82 : decode cX12_link 82 = .ok (.iload_n 3, 1) := by decide +kernel
theorem dX12_link_83 : decode cX12_link 83 = .ok (.invokevirtual 393, 3) := by decide +kernel
theorem dX12_link_86 : decode cX12_link 86 = .ok (.istore 6, 2) := by decide +kernel
theorem dX12_link_88 : decode cX12_link 88 = .ok (.iload 6, 2) := by decide +kernel
theorem dX12_link_90 : decode cX12_link 90 = .ok (.ifCond .lt 16, 3) := by decide +kernel
theorem dX12_link_93 : decode cX12_link 93 = .ok (.iload 6, 2) := by decide +kernel
theorem dX12_link_95 : decode cX12_link 95 = .ok (.bipush 60, 2) := by decide +kernel
theorem dX12_link_97 : decode cX12_link 97 = .ok (.idiv, 1) := by decide +kernel
theorem dX12_link_98 : decode cX12_link 98 = .ok (.iload 4, 2) := by decide +kernel
theorem dX12_link_100 : decode cX12_link 100 = .ok (.bipush 60, 2) := by decide +kernel
theorem dX12_link_102 : decode cX12_link 102 = .ok (.idiv, 1) := by decide +kernel
theorem dX12_link_103 : decode cX12_link 103 = .ok (.if_icmp .eq 5, 3) := by decide +kernel
theorem dX12_link_106 : decode cX12_link 106 = .ok (.iconst 0, 1) := by decide +kernel
theorem dX12_link_107 : decode cX12_link 107 = .ok (.ireturn, 1) := by decide +kernel
theorem dX12_link_108 : decode cX12_link 108 = .ok (.aload_n 0, 1) := by decide +kernel
theorem dX12_link_109 : decode cX12_link 109 = .ok (.iload 6, 2) := by decide +kernel
theorem dX12_link_111 : decode cX12_link 111 = .ok (.invokevirtual 396, 3) := by decide +kernel
theorem dX12_link_114 : decode cX12_link 114 = .ok (.aload_n 0, 1) := by decide +kernel
theorem dX12_link_115 : decode cX12_link 115 = .ok (.iload 6, 2) := by decide +kernel
theorem dX12_link_117 : decode cX12_link 117 = .ok (.invokevirtual 400, 3) := by decide +kernel
theorem dX12_link_120 : decode cX12_link 120 = .ok (.ifCond .eq 25, 3) := by decide +kernel
theorem dX12_link_123 : decode cX12_link 123 = .ok (.aload_n 0, 1) := by decide +kernel
theorem dX12_link_124 : decode cX12_link 124 = .ok (.iconst 0, 1) := by decide +kernel
theorem dX12_link_125 : decode cX12_link 125 = .ok (.aload_n 0, 1) := by decide +kernel
theorem dX12_link_126 : decode cX12_link 126 = .ok (.getfield 129, 3) := by decide +kernel
theorem dX12_link_129 : decode cX12_link 129 = .ok (.iload 6, 2) := by decide +kernel
theorem dX12_link_131 : decode cX12_link 131 = .ok (.iaload, 1) := by decide +kernel
theorem dX12_link_132 : decode cX12_link 132 = .ok (.aload_n 0, 1) := by decide +kernel
theorem dX12_link_133 : decode cX12_link 133 = .ok (.getfield 35, 3) := by decide +kernel
theorem dX12_link_136 : decode cX12_link 136 = .ok (.iload 5, 2) := by decide +kernel
theorem dX12_link_138 : decode cX12_link 138 = .ok (.iaload, 1) := by decide +kernel
theorem dX12_link_139 : decode cX12_link 139 = .ok (.invokevirtual 315, 3) := by decide +kernel
theorem dX12_link_142 : decode cX12_link 142 = .ok (.ifCond .ne 5, 3) := by decide +kernel
theorem dX12_link_145 : decode cX12_link 145 = .ok (.iconst 0, 1) := by decide +kernel
theorem dX12_link_146 : decode cX12_link 146 = .ok (.ireturn, 1) := by decide +kernel
theorem dX12_link_147 : decode cX12_link 147 = .ok (.aload_n 0, 1) := by decide +kernel
theorem dX12_link_148 : decode cX12_link 148 = .ok (.getfield 135, 3) := by decide +kernel
theorem dX12_link_151 : decode cX12_link 151 = .ok (.bipush 16, 2) := by decide +kernel
theorem dX12_link_153 : decode cX12_link 153 = .ok (.iload 4, 2) := by decide +kernel
theorem dX12_link_155 : decode cX12_link 155 = .ok (.imul, 1) := by decide +kernel
theorem dX12_link_156 : decode cX12_link 156 = .ok (.iload_n 2, 1) := by decide +kernel
theorem dX12_link_157 : decode cX12_link 157 = .ok (.iadd, 1) := by decide +kernel
theorem dX12_link_158 : decode cX12_link 158 = .ok (.aload_n 0, 1) := by decide +kernel
theorem dX12_link_159 : decode cX12_link 159 = .ok (.getfield 126, 3) := by decide +kernel
theorem dX12_link_162 : decode cX12_link 162 = .ok (.iload 6, 2) := by decide +kernel
theorem dX12_link_164 : decode cX12_link 164 = .ok (.iaload, 1) := by decide +kernel
theorem dX12_link_165 : decode cX12_link 165 = .ok (.iastore, 1) := by decide +kernel
theorem dX12_link_166 : decode cX12_link 166 = .ok (.iconst 1, 1) := by decide +kernel
theorem dX12_link_167 : decode cX12_link 167 = .ok (.ireturn, 1) := by decide +kernel
theorem dX12_isList_0 : decode cX12_isList 0 = .ok (.iload_n 2, 1) := by decide +kernel
theorem dX12_isList_1 : decode cX12_isList 1 = .ok (.ifCond .lt 18, 3) := by decide +kernel
theorem dX12_isList_4 : decode cX12_isList 4 = .ok (.iload_n 2, 1) := by decide +kernel
theorem dX12_isList_5 : decode cX12_isList 5 = .ok (.aload_n 0, 1) := by decide +kernel
theorem dX12_isList_6 : decode cX12_isList 6 = .ok (.getfield 23, 3) := by decide +kernel
theorem dX12_isList_9 : decode cX12_isList 9 = .ok (.aload_n 0, 1) := by decide +kernel
theorem dX12_isList_10 : decode cX12_isList 10 = .ok (.getfield 129, 3) := by decide +kernel
theorem dX12_isList_13 : decode cX12_isList 13 = .ok (.iload_n 1, 1) := by decide +kernel
theorem dX12_isList_14 : decode cX12_isList 14 = .ok (.iaload, 1) := by decide +kernel
theorem dX12_isList_15 : decode cX12_isList 15 = .ok (.iaload, 1) := by decide +kernel
theorem dX12_isList_16 : decode cX12_isList 16 = .ok (.if_icmp .lt 5, 3) := by decide +kernel
theorem dX12_isList_19 : decode cX12_isList 19 = .ok (.iconst 0, 1) := by decide +kernel
theorem dX12_isList_20 : decode cX12_isList 20 = .ok (.ireturn, 1) := by decide +kernel
theorem dX12_isList_21 : decode cX12_isList 21 = .ok (.bipush 16, 2) := by decide +kernel
theorem dX12_isList_23 : decode cX12_isList 23 = .ok (.aload_n 0, 1) := by decide +kernel
theorem dX12_isList_24 : decode cX12_isList 24 = .ok (.getfield 129, 3) := by decide +kernel
theorem dX12_isList_27 : decode cX12_isList 27 = .ok (.iload_n 1, 1) := by decide +kernel
theorem dX12_isList_28 : decode cX12_isList 28 = .ok (.iaload, 1) := by decide +kernel
theorem dX12_isList_29 : decode cX12_isList 29 = .ok (.imul, 1) := by decide +kernel
theorem dX12_isList_30 : decode cX12_isList 30 = .ok (.iload_n 2, 1) := by decide +kernel
theorem dX12_isList_31 : decode cX12_isList 31 = .ok (.iadd, 1) := by decide +kernel
theorem dX12_isList_32 : decode cX12_isList 32 = .ok (.istore_n 3, 1) := by decide +kernel
theorem dX12_isList_33 : decode cX12_isList 33 = .ok (.aload_n 0, 1) := by decide +kernel
theorem dX12_isList_34 : decode cX12_isList 34 = .ok (.getfield 32, 3) := by decide +kernel
theorem dX12_isList_37 : decode cX12_isList 37 = .ok (.iload_n 3, 1) := by decide +kernel
theorem dX12_isList_38 : decode cX12_isList 38 = .ok (.iaload, 1) := by decide +kernel
theorem dX12_isList_39 : decode cX12_isList 39 = .ok (.iconst 5, 1) := by decide +kernel
theorem dX12_isList_40 : decode cX12_isList 40 = .ok (.if_icmp .eq 5, 3) := by decide +kernel
theorem dX12_isList_43 : decode cX12_isList 43 = .ok (.iconst 0, 1) := by decide +kernel
theorem dX12_isList_44 : decode cX12_isList 44 = .ok (.ireturn, 1) := by decide +kernel
theorem dX12_isList_45 : decode cX12_isList 45 = .ok (.iload_n 1, 1) := by decide +kernel
theorem dX12_isList_46 : decode cX12_isList 46 = .ok (.bipush 60, 2) := by decide +kernel
theorem dX12_isList_48 : decode cX12_isList 48 = .ok (.idiv, 1) := by decide +kernel
theorem dX12_isList_49 : decode cX12_isList 49 = .ok (.istore 4, 2) := by decide +kernel
theorem dX12_isList_51 : decode cX12_isList 51 = .ok (.aload_n 0, 1) := by decide +kernel
theorem dX12_isList_52 : decode cX12_isList 52 = .ok (.getfield 35, 3) := by decide +kernel
theorem dX12_isList_55 : decode cX12_isList 55 = .ok (.iload_n 3, 1) := by decide +kernel
theorem dX12_isList_56 : decode cX12_isList 56 = .ok (.iaload, 1) := by decide +kernel
theorem dX12_isList_57 : decode cX12_isList 57 = .ok (.istore 5, 2) := by decide +kernel
theorem dX12_isList_59 : decode cX12_isList 59 = .ok (.aload_n 0, 1) := by decide +kernel
theorem dX12_isList_60 : decode cX12_isList 60 = .ok (.getfield 47, 3) := by decide +kernel
theorem dX12_isList_63 : decode cX12_isList 63 = .ok (.iload_n 3, 1) := by decide +kernel
theorem dX12_isList_64 : decode cX12_isList 64 = .ok (.iaload, 1) := by decide +kernel
theorem dX12_isList_65 : decode cX12_isList 65 = .ok (.istore 6, 2) := by decide +kernel
theorem dX12_isList_67 : decode cX12_isList 67 = .ok (.aload_n 0, 1) := by decide +kernel
theorem dX12_isList_68 : decode cX12_isList 68 = .ok (.iload 5, 2) := by decide +kernel
theorem dX12_isList_70 : decode cX12_isList 70 = .ok (.invokevirtual 353, 3) := by decide +kernel
theorem dX12_isList_73 : decode cX12_isList 73 = .ok (.istore 7, 2) := by decide +kernel
theorem dX12_isList_75 : decode cX12_isList 75 = .ok (.aload_n 0, 1) := by decide +kernel
theorem dX12_isList_76 : decode cX12_isList 76 = .ok (.iconst 0, 1) := by decide +kernel
theorem dX12_isList_77 : decode cX12_isList 77 = .ok (.putfield 421, 3) := by decide +kernel
theorem dX12_isList_80 : decode cX12_isList 80 = .ok (.aload_n 0, 1) := by decide +kernel
theorem dX12_isList_81 : decode cX12_isList 81 = .ok (.getfield 92, 3) := by decide +kernel
theorem dX12_isList_84 : decode cX12_isList 84 = .ok (.iload 7, 2) := by decide +kernel
theorem dX12_isList_86 : decode cX12_isList 86 = .ok (.iaload, 1) := by decide +kernel
theorem dX12_isList_87 : decode cX12_isList 87 = .ok (.istore 8, 2) := by decide +kernel
theorem dX12_isList_89 : decode cX12_isList 89 = .ok (.iconst 0, 1) := by decide +kernel
theorem dX12_isList_90 : decode cX12_isList 90 = .ok (.istore 9, 2) := by decide +kernel
theorem dX12_isList_92 : decode cX12_isList 92 = .ok (.iload 9, 2) := by decide +kernel
theorem dX12_isList_94 : decode cX12_isList 94 = .ok (.aload_n 0, 1) := by decide +kernel
theorem dX12_isList_95 : decode cX12_isList 95 = .ok (.getfield 344, 3) := by decide +kernel
theorem dX12_isList_98 : decode cX12_isList 98 = .ok (.if_icmp .ge 106, 3) := by decide +kernel
theorem dX12_isList_101 : decode cX12_isList 101 = .ok (.aload_n 0, 1) := by decide +kernel
theorem dX12_isList_102 : decode cX12_isList 102 = .ok (.getfield 77, 3) := by decide +kernel
theorem dX12_isList_105 : decode cX12_isList 105 = .ok (.iload 9, 2) := by decide +kernel
theorem dX12_isList_107 : decode cX12_isList 107 = .ok (.iaload, 1) := by decide +kernel
theorem dX12_isList_108 : decode cX12_isList 108 = .ok (.iload 7, 2) := by decide +kernel
theorem dX12_isList_110 : decode cX12_isList 110 = .ok (.if_icmp .ne 88, 3) := by decide +kernel
theorem dX12_isList_113 : decode cX12_isList 113 = .ok (.aload_n 0, 1) := by decide +kernel
theorem dX12_isList_114 : decode cX12_isList 114 = .ok (.iconst 0, 1) := by decide +kernel
theorem dX12_isList_115 : decode cX12_isList 115 = .ok (.aload_n 0, 1) := by decide +kernel
theorem dX12_isList_116 : decode cX12_isList 116 = .ok (.getfield 83, 3) := by decide +kernel
theorem dX12_isList_119 : decode cX12_isList 119 = .ok (.iload 9, 2) := by decide +kernel
theorem dX12_isList_121 : decode cX12_isList 121 = .ok (.iaload, 1) := by decide +kernel
theorem dX12_isList_122 : decode cX12_isList 122 = .ok (.iload 5, 2) := by decide +kernel
theorem dX12_isList_124 : decode cX12_isList 124 = .ok (.invokevirtual 315, 3) := by decide +kernel
theorem dX12_isList_127 : decode cX12_isList 127 = .ok (.ifCond .eq 71, 3) := by decide +kernel
theorem dX12_isList_130 : decode cX12_isList 130 = .ok (.aload_n 0, 1) := by decide +kernel
theorem dX12_isList_131 : decode cX12_isList 131 = .ok (.getfield 89, 3) := by decide +kernel
theorem dX12_isList_134 : decode cX12_isList 134 = .ok (.bipush 16, 2) := by decide +kernel
theorem dX12_isList_136 : decode cX12_isList 136 = .ok (.iload 9, 2) := by decide +kernel
theorem dX12_isList_138 : decode cX12_isList 138 = .ok (.imul, 1) := by decide +kernel
theorem dX12_isList_139 : decode cX12_isList 139 = .ok (.iload 6, 2) := by decide +kernel
theorem dX12_isList_141 : decode cX12_isList 141 = .ok (.iadd, 1) := by decide +kernel
theorem dX12_isList_142 : decode cX12_isList 142 = .ok (.iaload, 1) := by decide +kernel
theorem dX12_isList_143 : decode cX12_isList 143 = .ok (.aload_n 0, 1) := by decide +kernel
theorem dX12_isList_144 : decode cX12_isList 144 = .ok (.getfield 126, 3) := by decide +kernel
theorem dX12_isList_147 : decode cX12_isList 147 = .ok (.iload_n 1, 1) := by decide +kernel
theorem dX12_isList_148 : decode cX12_isList 148 = .ok (.iaload, 1) := by decide +kernel
theorem dX12_isList_149 : decode cX12_isList 149 = .ok (.if_icmp .eq 6, 3) := by decide +kernel
theorem dX12_isList_152 : decode cX12_isList 152 = .ok (.goto 46, 3) := by decide +kernel
theorem dX12_isList_155 : decode cX12_isList 155 = .ok (.aload_n 0, 1) := by decide +kernel
theorem dX12_isList_156 : decode cX12_isList 156 = .ok (.iload 4, 2) := by decide +kernel
theorem dX12_isList_158 : decode cX12_isList 158 = .ok (.iload 7, 2) := by decide +kernel
theorem dX12_isList_160 : decode cX12_isList 160 = .ok (.aload_n 0, 1) := by decide +kernel
theorem dX12_isList_161 : decode cX12_isList 161 = .ok (.getfield 80, 3) := by decide +kernel
theorem dX12_isList_164 : decode cX12_isList 164 = .ok (.iload 9, 2) := by decide +kernel
theorem dX12_isList_166 : decode cX12_isList 166 = .ok (.iaload, 1) := by decide +kernel
theorem dX12_isList_167 : decode cX12_isList 167 = .ok (.invokevirtual 383, 3) := by decide +kernel
theorem dX12_isList_170 : decode cX12_isList 170 = .ok (.istore 10, 2) := by decide +kernel
theorem dX12_isList_172 : decode cX12_isList 172 = .ok (.iload 10, 2) := by decide +kernel
theorem dX12_isList_174 : decode cX12_isList 174 = .ok (.ifCond .lt 13, 3) := by decide +kernel
theorem dX12_isList_177 : decode cX12_isList 177 = .ok (.aload_n 0, 1) := by decide +kernel
theorem dX12_isList_178 : decode cX12_isList 178 = .ok (.getfield 120, 3) := by decide +kernel
theorem dX12_isList_181 : decode cX12_isList 181 = .ok (.iload 10, 2) := by decide +kernel
theorem dX12_isList_183 : decode cX12_isList 183 = .ok (.iaload, 1) := by decide +kernel
theorem dX12_isList_184 : decode cX12_isList 184 = .ok (.ifCond .ne 14, 3) := by decide +kernel
theorem dX12_isList_187 : decode cX12_isList 187 = .ok (.aload_n 0, 1) := by decide +kernel
theorem dX12_isList_188 : decode cX12_isList 188 = .ok (.aload_n 0, 1) := by decide +kernel
theorem dX12_isList_189 : decode cX12_isList 189 = .ok (.getfield 80, 3) := by decide +kernel
theorem dX12_isList_192 : decode cX12_isList 192 = .ok (.iload 9, 2) := by decide +kernel
theorem dX12_isList_194 : decode cX12_isList 194 = .ok (.iaload, 1) := by decide +kernel
theorem dX12_isList_195 : decode cX12_isList 195 = .ok (.invokevirtual 424, 3) := by decide +kernel
theorem dX12_isList_198 : decode cX12_isList 198 = .ok (.iinc 9 1, 3) := by decide +kernel
theorem dX12_isList_201 : decode cX12_isList 201 = .ok (.goto (-109), 3) := by decide +kernel
theorem dX12_isList_204 : decode cX12_isList 204 = .ok (.iconst 0, 1) := by decide +kernel
theorem dX12_isList_205 : decode cX12_isList 205 = .ok (.istore 9, 2) := by decide +kernel
theorem dX12_isList_207 : decode cX12_isList 207 = .ok (.iload 9, 2) := by decide +kernel
theorem dX12_isList_209 : decode cX12_isList 209 = .ok (.aload_n 0, 1) := by decide +kernel
theorem dX12_isList_210 : decode cX12_isList 210 = .ok (.getfield 114, 3) := by decide +kernel
theorem dX12_isList_213 : decode cX12_isList 213 = .ok (.iload 4, 2) := by decide +kernel
theorem dX12_isList_215 : decode cX12_isList 215 = .ok (.iaload, 1) := by decide +kernel
theorem dX12_isList_216 : decode cX12_isList 216 = .ok (.if_icmp .ge 90, 3) := by decide +kernel
theorem dX12_isList_219 : decode cX12_isList 219 = .ok (.bipush 60, 2) := by decide +kernel
theorem dX12_isList_221 : decode cX12_isList 221 = .ok (.iload 4, 2) := by decide +kernel
theorem dX12_isList_223 : decode cX12_isList 223 = .ok (.imul, 1) := by decide +kernel
theorem dX12_isList_224 : decode cX12_isList 224 = .ok (.iload 9, 2) := by decide +kernel
theorem dX12_isList_226 : decode cX12_isList 226 = .ok (.iadd, 1) := by decide +kernel
theorem dX12_isList_227 : decode cX12_isList 227 = .ok (.istore 10, 2) := by decide +kernel
theorem dX12_isList_229 : decode cX12_isList 229 = .ok (.aload_n 0, 1) := by decide +kernel
theorem dX12_isList_230 : decode cX12_isList 230 = .ok (.getfield 123, 3) := by decide +kernel
theorem dX12_isList_233 : decode cX12_isList 233 = .ok (.iload 10, 2) := by decide +kernel
theorem dX12_isList_235 : decode cX12_isList 235 = .ok (.iaload, 1) := by decide +kernel
theorem dX12_isList_236 : decode cX12_isList 236 = .ok (.iload 7, 2) := by decide +kernel
theorem dX12_isList_238 : decode cX12_isList 238 = .ok (.if_icmp .ne 62, 3) := by decide +kernel
theorem dX12_isList_241 : decode cX12_isList 241 = .ok (.aload_n 0, 1) := by decide +kernel
theorem dX12_isList_242 : decode cX12_isList 242 = .ok (.iload 10, 2) := by decide +kernel
theorem dX12_isList_244 : decode cX12_isList 244 = .ok (.invokevirtual 400, 3) := by decide +kernel
theorem dX12_isList_247 : decode cX12_isList 247 = .ok (.ifCond .eq 53, 3) := by decide +kernel
theorem dX12_isList_250 : decode cX12_isList 250 = .ok (.aload_n 0, 1) := by decide +kernel
theorem dX12_isList_251 : decode cX12_isList 251 = .ok (.iconst 0, 1) := by decide +kernel
theorem dX12_isList_252 : decode cX12_isList 252 = .ok (.aload_n 0, 1) := by decide +kernel
theorem dX12_isList_253 : decode cX12_isList 253 = .ok (.getfield 129, 3) := by decide +kernel
theorem dX12_isList_256 : decode cX12_isList 256 = .ok (.iload 10, 2) := by decide +kernel
theorem dX12_isList_258 : decode cX12_isList 258 = .ok (.iaload, 1) := by decide +kernel
theorem dX12_isList_259 : decode cX12_isList 259 = .ok (.iload 5, 2) := by decide +kernel
theorem dX12_isList_261 : decode cX12_isList 261 = .ok (.invokevirtual 315, 3) := by decide +kernel
theorem dX12_isList_264 : decode cX12_isList 264 = .ok (.ifCond .eq 36, 3) := by decide +kernel
theorem dX12_isList_267 : decode cX12_isList 267 = .ok (.aload_n 0, 1) := by decide +kernel
theorem dX12_isList_268 : decode cX12_isList 268 = .ok (.getfield 135, 3) := by decide +kernel
theorem dX12_isList_271 : decode cX12_isList 271 = .ok (.bipush 16, 2) := by decide +kernel
theorem dX12_isList_273 : decode cX12_isList 273 = .ok (.iload 10, 2) := by decide +kernel
theorem dX12_isList_275 : decode cX12_isList 275 = .ok (.imul, 1) := by decide +kernel
theorem dX12_isList_276 : decode cX12_isList 276 = .ok (.iload 6, 2) := by decide +kernel
theorem dX12_isList_278 : decode cX12_isList 278 = .ok (.iadd, 1) := by decide +kernel
theorem dX12_isList_279 : decode cX12_isList 279 = .ok (.iaload, 1) := by decide +kernel
theorem dX12_isList_280 : decode cX12_isList 280 = .ok (.aload_n 0, 1) := by decide +kernel
theorem dX12_isList_281 : decode cX12_isList 281 = .ok (.getfield 126, 3) := by decide +kernel
theorem dX12_isList_284 : decode cX12_isList 284 = .ok (.iload_n 1, 1) := by decide +kernel
theorem dX12_isList_285 : decode cX12_isList 285 = .ok (.iaload, 1) := by decide +kernel
theorem dX12_isList_286 : decode cX12_isList 286 = .ok (.if_icmp .ne 14, 3) := by decide +kernel
theorem dX12_isList_289 : decode cX12_isList 289 = .ok (.aload_n 0, 1) := by decide +kernel
theorem dX12_isList_290 : decode cX12_isList 290 = .ok (.aload_n 0, 1) := by decide +kernel
theorem dX12_isList_291 : decode cX12_isList 291 = .ok (.getfield 126, 3) := by decide +kernel
theorem dX12_isList_294 : decode cX12_isList 294 = .ok (.iload 10, 2) := by decide +kernel
theorem dX12_isList_296 : decode cX12_isList 296 = .ok (.iaload, 1) := by decide +kernel
theorem dX12_isList_297 : decode cX12_isList 297 = .ok (.invokevirtual 424, 3) := by decide +kernel
theorem dX12_isList_300 : decode cX12_isList 300 = .ok (.iinc 9 1, 3) := by decide +kernel
theorem dX12_isList_303 : decode cX12_isList 303 = .ok (.goto (-96), 3) := by decide +kernel
theorem dX12_isList_306 : decode cX12_isList 306 = .ok (.iconst 1, 1) := by decide +kernel
theorem dX12_isList_307 : decode cX12_isList 307 = .ok (.ireturn, 1) := by decide +kernel
theorem dX12_addKey_0 : decode cX12_addKey 0 = .ok (.aload_n 0, 1) := by decide +kernel
theorem dX12_addKey_1 : decode cX12_addKey 1 = .ok (.getfield 421, 3) := by decide +kernel
theorem dX12_addKey_4 : decode cX12_addKey 4 = .ok (.istore_n 2, 1) := by decide +kernel
theorem dX12_addKey_5 : decode cX12_addKey 5 = .ok (.iload_n 2, 1) := by decide +kernel
theorem dX12_addKey_6 : decode cX12_addKey 6 = .ok (.ifCond .le 35, 3) := by decide +kernel
theorem dX12_addKey_9 : decode cX12_addKey 9 = .ok (.aload_n 0, 1) := by decide +kernel
theorem dX12_addKey_10 : decode cX12_addKey 10 = .ok (.getfield 148, 3) := by decide +kernel
theorem dX12_addKey_13 : decode cX12_addKey 13 = .ok (.iload_n 2, 1) := by decide +kernel
theorem dX12_addKey_14 : decode cX12_addKey 14 = .ok (.iconst 1, 1) := by decide +kernel
theorem dX12_addKey_15 : decode cX12_addKey 15 = .ok (.isub, 1) := by decide +kernel
theorem dX12_addKey_16 : decode cX12_addKey 16 = .ok (.iaload, 1) := by decide +kernel
theorem dX12_addKey_17 : decode cX12_addKey 17 = .ok (.iload_n 1, 1) := by decide +kernel
theorem dX12_addKey_18 : decode cX12_addKey 18 = .ok (.if_icmp .le 23, 3) := by decide +kernel
theorem dX12_addKey_21 : decode cX12_addKey 21 = .ok (.aload_n 0, 1) := by decide +kernel
theorem dX12_addKey_22 : decode cX12_addKey 22 = .ok (.getfield 148, 3) := by decide +kernel
theorem dX12_addKey_25 : decode cX12_addKey 25 = .ok (.iload_n 2, 1) := by decide +kernel
theorem dX12_addKey_26 : decode cX12_addKey 26 = .ok (.aload_n 0, 1) := by decide +kernel
theorem dX12_addKey_27 : decode cX12_addKey 27 = .ok (.getfield 148, 3) := by decide +kernel
theorem dX12_addKey_30 : decode cX12_addKey 30 = .ok (.iload_n 2, 1) := by decide +kernel
theorem dX12_addKey_31 : decode cX12_addKey 31 = .ok (.iconst 1, 1) := by decide +kernel
theorem dX12_addKey_32 : decode cX12_addKey 32 = .ok (.isub, 1) := by decide +kernel
theorem dX12_addKey_33 : decode cX12_addKey 33 = .ok (.iaload, 1) := by decide +kernel
theorem dX12_addKey_34 : decode cX12_addKey 34 = .ok (.iastore, 1) := by decide +kernel
theorem dX12_addKey_35 : decode cX12_addKey 35 = .ok (.iinc 2 (-1), 3) := by decide +kernel
theorem dX12_addKey_38 : decode cX12_addKey 38 = .ok (.goto (-33), 3) := by decide +kernel
theorem dX12_addKey_41 : decode cX12_addKey 41 = .ok (.aload_n 0, 1) := by decide +kernel
theorem dX12_addKey_42 : decode cX12_addKey 42 = .ok (.getfield 148, 3) := by decide +kernel
theorem dX12_addKey_45 : decode cX12_addKey 45 = .ok (.iload_n 2, 1) := by decide +kernel
theorem dX12_addKey_46 : decode cX12_addKey 46 = .ok (.iload_n 1, 1) := by decide +kernel
theorem dX12_addKey_47 : decode cX12_addKey 47 = .ok (.iastore, 1) := by decide +kernel
theorem dX12_addKey_48 : decode cX12_addKey 48 = .ok (.aload_n 0, 1) := by decide +kernel
theorem dX12_addKey_49 : decode cX12_addKey 49 = .ok (.dup, 1) := by decide +kernel
theorem dX12_addKey_50 : decode cX12_addKey 50 = .ok (.getfield 421, 3) := by decide +kernel
theorem dX12_addKey_53 : decode cX12_addKey 53 = .ok (.iconst 1, 1) := by decide +kernel
theorem dX12_addKey_54 : decode cX12_addKey 54 = .ok (.iadd, 1) := by decide +kernel
theorem dX12_addKey_55 : decode cX12_addKey 55 = .ok (.putfield 421, 3) := by decide +kernel
theorem dX12_addKey_58 : decode cX12_addKey 58 = .ok (.return_, 1) := by decide +kernel
theorem dX12_size_0 : decode cX12_size 0 = .ok (.aload_n 0, 1) := by decide +kernel
theorem dX12_size_1 : decode cX12_size 1 = .ok (.iload_n 1, 1) := by decide +kernel
theorem dX12_size_2 : decode cX12_size 2 = .ok (.invokevirtual 409, 3) := by decide +kernel
theorem dX12_size_5 : decode cX12_size 5 = .ok (.istore_n 3, 1) := by decide +kernel
theorem dX12_size_6 : decode cX12_size 6 = .ok (.iload_n 3, 1) := by decide +kernel
theorem dX12_size_7 : decode cX12_size 7 = .ok (.ifCond .lt 19, 3) := by decide +kernel
theorem dX12_size_10 : decode cX12_size 10 = .ok (.aload_n 0, 1) := by decide +kernel
theorem dX12_size_11 : decode cX12_size 11 = .ok (.iload_n 3, 1) := by decide +kernel
theorem dX12_size_12 : decode cX12_size 12 = .ok (.iload_n 2, 1) := by decide +kernel
theorem dX12_size_13 : decode cX12_size 13 = .ok (.invokevirtual 427, 3) := by decide +kernel
theorem dX12_size_16 : decode cX12_size 16 = .ok (.ifCond .eq 10, 3) := by decide +kernel
theorem dX12_size_19 : decode cX12_size 19 = .ok (.aload_n 0, 1) := by decide +kernel
theorem dX12_size_20 : decode cX12_size 20 = .ok (.getfield 421, 3) := by decide +kernel
theorem dX12_size_23 : decode cX12_size 23 = .ok (.goto 4, 3) := by decide +kernel
theorem dX12_size_26 : decode cX12_size 26 = .ok (.iconst (-1), 1) := by decide +kernel
theorem dX12_size_27 : decode cX12_size 27 = .ok (.ireturn, 1) := by decide +kernel
theorem dX12_item_0 : decode cX12_item 0 = .ok (.aload_n 0, 1) := by decide +kernel
theorem dX12_item_1 : decode cX12_item 1 = .ok (.iload_n 1, 1) := by decide +kernel
theorem dX12_item_2 : decode cX12_item 2 = .ok (.invokevirtual 409, 3) := by decide +kernel
theorem dX12_item_5 : decode cX12_item 5 = .ok (.istore 4, 2) := by decide +kernel
theorem dX12_item_7 : decode cX12_item 7 = .ok (.iload 4, 2) := by decide +kernel
theorem dX12_item_9 : decode cX12_item 9 = .ok (.ifCond .lt 25, 3) := by decide +kernel
theorem dX12_item_12 : decode cX12_item 12 = .ok (.aload_n 0, 1) := by decide +kernel
theorem dX12_item_13 : decode cX12_item 13 = .ok (.iload 4, 2) := by decide +kernel
theorem dX12_item_15 : decode cX12_item 15 = .ok (.iload_n 2, 1) := by decide +kernel
theorem dX12_item_16 : decode cX12_item 16 = .ok (.invokevirtual 427, 3) := by decide +kernel
theorem dX12_item_19 : decode cX12_item 19 = .ok (.ifCond .eq 15, 3) := by decide +kernel
theorem dX12_item_22 : decode cX12_item 22 = .ok (.iload_n 3, 1) := by decide +kernel
theorem dX12_item_23 : decode cX12_item 23 = .ok (.ifCond .lt 11, 3) := by decide +kernel
theorem dX12_item_26 : decode cX12_item 26 = .ok (.iload_n 3, 1) := by decide +kernel
theorem dX12_item_27 : decode cX12_item 27 = .ok (.aload_n 0, 1) := by decide +kernel
theorem dX12_item_28 : decode cX12_item 28 = .ok (.getfield 421, 3) := by decide +kernel
theorem dX12_item_31 : decode cX12_item 31 = .ok (.if_icmp .lt 5, 3) := by decide +kernel
theorem dX12_item_34 : decode cX12_item 34 = .ok (.iconst (-1), 1) := by decide +kernel
theorem dX12_item_35 : decode cX12_item 35 = .ok (.ireturn, 1) := by decide +kernel
theorem dX12_item_36 : decode cX12_item 36 = .ok (.aload_n 0, 1) := by decide +kernel
theorem dX12_item_37 : decode cX12_item 37 = .ok (.iload 4, 2) := by decide +kernel
theorem dX12_item_39 : decode cX12_item 39 = .ok (.bipush 60, 2) := by decide +kernel
theorem dX12_item_41 : decode cX12_item 41 = .ok (.idiv, 1) := by decide +kernel
theorem dX12_item_42 : decode cX12_item 42 = .ok (.aload_n 0, 1) := by decide +kernel
theorem dX12_item_43 : decode cX12_item 43 = .ok (.aload_n 0, 1) := by decide +kernel
theorem dX12_item_44 : decode cX12_item 44 = .ok (.getfield 35, 3) := by decide +kernel
theorem dX12_item_47 : decode cX12_item 47 = .ok (.bipush 16, 2) := by decide +kernel
theorem dX12_item_49 : decode cX12_item 49 = .ok (.aload_n 0, 1) := by decide +kernel
theorem dX12_item_50 : decode cX12_item 50 = .ok (.getfield 129, 3) := by decide +kernel
theorem dX12_item_53 : decode cX12_item 53 = .ok (.iload 4, 2) := by decide +kernel
theorem dX12_item_55 : decode cX12_item 55 = .ok (.iaload, 1) := by decide +kernel
theorem dX12_item_56 : decode cX12_item 56 = .ok (.imul, 1) := by decide +kernel
theorem dX12_item_57 : decode cX12_item 57 = .ok (.iload_n 2, 1) := by decide +kernel
theorem dX12_item_58 : decode cX12_item 58 = .ok (.iadd, 1) := by decide +kernel
theorem dX12_item_59 : decode cX12_item 59 = .ok (.iaload, 1) := by decide +kernel
theorem dX12_item_60 : decode cX12_item 60 = .ok (.invokevirtual 353, 3) := by decide +kernel
theorem dX12_item_63 : decode cX12_item 63 = .ok (.aload_n 0, 1) := by decide +kernel
theorem dX12_item_64 : decode cX12_item 64 = .ok (.getfield 148, 3) := by decide +kernel
theorem dX12_item_67 : decode cX12_item 67 = .ok (.iload_n 3, 1) := by decide +kernel
theorem dX12_item_68 : decode cX12_item 68 = .ok (.iaload, 1) := by decide +kernel
theorem dX12_item_69 : decode cX12_item 69 = .ok (.invokevirtual 406, 3) := by decide +kernel
theorem dX12_item_72 : decode cX12_item 72 = .ok (.istore 5, 2) := by decide +kernel
theorem dX12_item_74 : decode cX12_item 74 = .ok (.iload 5, 2) := by decide +kernel
theorem dX12_item_76 : decode cX12_item 76 = .ok (.ifCond .ge 8, 3) := by decide +kernel
theorem dX12_item_79 : decode cX12_item 79 = .ok (.bipush (-2), 2) := by decide +kernel
theorem dX12_item_81 : decode cX12_item 81 = .ok (.goto 8, 3) := by decide +kernel
theorem dX12_item_84 : decode cX12_item 84 = .ok (.iload 5, 2) := by decide +kernel
theorem dX12_item_86 : decode cX12_item 86 = .ok (.invokestatic 403, 3) := by decide +kernel
theorem dX12_item_89 : decode cX12_item 89 = .ok (.ireturn, 1) := by decide +kernel
theorem dX12_drop_0 : decode cX12_drop 0 = .ok (.aload_n 0, 1) := by decide +kernel
theorem dX12_drop_1 : decode cX12_drop 1 = .ok (.iload_n 1, 1) := by decide +kernel
theorem dX12_drop_2 : decode cX12_drop 2 = .ok (.invokevirtual 409, 3) := by decide +kernel
theorem dX12_drop_5 : decode cX12_drop 5 = .ok (.istore_n 2, 1) := by decide +kernel
theorem dX12_drop_6 : decode cX12_drop 6 = .ok (.iload_n 2, 1) := by decide +kernel
theorem dX12_drop_7 : decode cX12_drop 7 = .ok (.ifCond .ge 5, 3) := by decide +kernel
theorem dX12_drop_10 : decode cX12_drop 10 = .ok (.iconst (-1), 1) := by decide +kernel
theorem dX12_drop_11 : decode cX12_drop 11 = .ok (.ireturn, 1) := by decide +kernel
theorem dX12_drop_12 : decode cX12_drop 12 = .ok (.iload_n 2, 1) := by decide +kernel
theorem dX12_drop_13 : decode cX12_drop 13 = .ok (.bipush 60, 2) := by decide +kernel
theorem dX12_drop_15 : decode cX12_drop 15 = .ok (.idiv, 1) := by decide +kernel
theorem dX12_drop_16 : decode cX12_drop 16 = .ok (.istore_n 3, 1) := by decide +kernel
theorem dX12_drop_17 : decode cX12_drop 17 = .ok (.iconst 1, 1) := by decide +kernel
theorem dX12_drop_18 : decode cX12_drop 18 = .ok (.istore 4, 2) := by decide +kernel
theorem dX12_drop_20 : decode cX12_drop 20 = .ok (.aload_n 0, 1) := by decide +kernel
theorem dX12_drop_21 : decode cX12_drop 21 = .ok (.getfield 151, 3) := by decide +kernel
theorem dX12_drop_24 : decode cX12_drop 24 = .ok (.iconst 0, 1) := by decide +kernel
theorem dX12_drop_25 : decode cX12_drop 25 = .ok (.iload_n 2, 1) := by decide +kernel
theorem dX12_drop_26 : decode cX12_drop 26 = .ok (.iastore, 1) := by decide +kernel
theorem dX12_drop_27 : decode cX12_drop 27 = .ok (.iconst 0, 1) := by decide +kernel
theorem dX12_drop_28 : decode cX12_drop 28 = .ok (.istore 5, 2) := by decide +kernel
theorem dX12_drop_30 : decode cX12_drop 30 = .ok (.iload 5, 2) := by decide +kernel
theorem dX12_drop_32 : decode cX12_drop 32 = .ok (.iload 4, 2) := by decide +kernel
theorem dX12_drop_34 : decode cX12_drop 34 = .ok (.if_icmp .ge 304, 3) := by decide +kernel
theorem dX12_drop_37 : decode cX12_drop 37 = .ok (.aload_n 0, 1) := by decide +kernel
theorem dX12_drop_38 : decode cX12_drop 38 = .ok (.getfield 151, 3) := by decide +kernel
theorem dX12_drop_41 : decode cX12_drop 41 = .ok (.iload 5, 2) := by decide +kernel
theorem dX12_drop_43 : decode cX12_drop 43 = .ok (.iaload, 1) := by decide +kernel
theorem dX12_drop_44 : decode cX12_drop 44 = .ok (.istore 6, 2) := by decide +kernel
theorem dX12_drop_46 : decode cX12_drop 46 = .ok (.iconst 0, 1) := by decide +kernel
theorem dX12_drop_47 : decode cX12_drop 47 = .ok (.istore 7, 2) := by decide +kernel
theorem dX12_drop_49 : decode cX12_drop 49 = .ok (.iload 7, 2) := by decide +kernel
theorem dX12_drop_51 : decode cX12_drop 51 = .ok (.aload_n 0, 1) := by decide +kernel
theorem dX12_drop_52 : decode cX12_drop 52 = .ok (.getfield 23, 3) := by decide +kernel
theorem dX12_drop_55 : decode cX12_drop 55 = .ok (.aload_n 0, 1) := by decide +kernel
theorem dX12_drop_56 : decode cX12_drop 56 = .ok (.getfield 129, 3) := by decide +kernel
theorem dX12_drop_59 : decode cX12_drop 59 = .ok (.iload 6, 2) := by decide +kernel
theorem dX12_drop_61 : decode cX12_drop 61 = .ok (.iaload, 1) := by decide +kernel
theorem dX12_drop_62 : decode cX12_drop 62 = .ok (.iaload, 1) := by decide +kernel
theorem dX12_drop_63 : decode cX12_drop 63 = .ok (.if_icmp .ge 269, 3) := by decide +kernel
theorem dX12_drop_66 : decode cX12_drop 66 = .ok (.bipush 16, 2) := by decide +kernel
theorem dX12_drop_68 : decode cX12_drop 68 = .ok (.aload_n 0, 1) := by decide +kernel
theorem dX12_drop_69 : decode cX12_drop 69 = .ok (.getfield 129, 3) := by decide +kernel
theorem dX12_drop_72 : decode cX12_drop 72 = .ok (.iload 6, 2) := by decide +kernel
theorem dX12_drop_74 : decode cX12_drop 74 = .ok (.iaload, 1) := by decide +kernel
theorem dX12_drop_75 : decode cX12_drop 75 = .ok (.imul, 1) := by decide +kernel
theorem dX12_drop_76 : decode cX12_drop 76 = .ok (.iload 7, 2) := by decide +kernel
theorem dX12_drop_78 : decode cX12_drop 78 = .ok (.iadd, 1) := by decide +kernel
theorem dX12_drop_79 : decode cX12_drop 79 = .ok (.istore 8, 2) := by decide +kernel
theorem dX12_drop_81 : decode cX12_drop 81 = .ok (.aload_n 0, 1) := by decide +kernel
theorem dX12_drop_82 : decode cX12_drop 82 = .ok (.getfield 44, 3) := by decide +kernel
theorem dX12_drop_85 : decode cX12_drop 85 = .ok (.iload 8, 2) := by decide +kernel
theorem dX12_drop_87 : decode cX12_drop 87 = .ok (.iaload, 1) := by decide +kernel
theorem dX12_drop_88 : decode cX12_drop 88 = .ok (.iconst 4, 1) := by decide +kernel
theorem dX12_drop_89 : decode cX12_drop 89 = .ok (.iand, 1) := by decide +kernel
theorem dX12_drop_90 : decode cX12_drop 90 = .ok (.ifCond .ne 6, 3) := by decide +kernel
theorem dX12_drop_93 : decode cX12_drop 93 = .ok (.goto 233, 3) := by decide +kernel
theorem dX12_drop_96 : decode cX12_drop 96 = .ok (.iconst 0, 1) := by decide +kernel
theorem dX12_drop_97 : decode cX12_drop 97 = .ok (.istore 9, 2) := by decide +kernel
theorem dX12_drop_99 : decode cX12_drop 99 = .ok (.aload_n 0, 1) := by decide +kernel
theorem dX12_drop_100 : decode cX12_drop 100 = .ok (.getfield 32, 3) := by decide +kernel
theorem dX12_drop_103 : decode cX12_drop 103 = .ok (.iload 8, 2) := by decide +kernel
theorem dX12_drop_105 : decode cX12_drop 105 = .ok (.iaload, 1) := by decide +kernel
theorem dX12_drop_106 : decode cX12_drop 106 = .ok (.iconst 4, 1) := by decide +kernel
theorem dX12_drop_107 : decode cX12_drop 107 = .ok (.if_icmp .ne 41, 3) := by decide +kernel
theorem dX12_drop_110 : decode cX12_drop 110 = .ok (.aload_n 0, 1) := by decide +kernel
theorem dX12_drop_111 : decode cX12_drop 111 = .ok (.getfield 154, 3) := by decide +kernel
theorem dX12_drop_114 : decode cX12_drop 114 = .ok (.iconst 0, 1) := by decide +kernel
theorem dX12_drop_115 : decode cX12_drop 115 = .ok (.aload_n 0, 1) := by decide +kernel
theorem dX12_drop_116 : decode cX12_drop 116 = .ok (.getfield 135, 3) := by decide +kernel
theorem dX12_drop_119 : decode cX12_drop 119 = .ok (.bipush 16, 2) := by decide +kernel
theorem dX12_drop_121 : decode cX12_drop 121 = .ok (.iload 6, 2) := by decide +kernel
theorem dX12_drop_123 : decode cX12_drop 123 = .ok (.imul, 1) := by decide +kernel
theorem dX12_drop_124 : decode cX12_drop 124 = .ok (.iload 7, 2) := by decide +kernel
theorem dX12_drop_126 : decode cX12_drop 126 = .ok (.iadd, 1) := by decide +kernel
theorem dX12_drop_127 : decode cX12_drop 127 = .ok (.iaload, 1) := by decide +kernel
theorem dX12_drop_128 : decode cX12_drop 128 = .ok (.iastore, 1) := by decide +kernel
theorem dX12_drop_129 : decode cX12_drop 129 = .ok (.aload_n 0, 1) := by decide +kernel
theorem dX12_drop_130 : decode cX12_drop 130 = .ok (.getfield 154, 3) := by decide +kernel
theorem dX12_drop_133 : decode cX12_drop 133 = .ok (.iconst 0, 1) := by decide +kernel
theorem dX12_drop_134 : decode cX12_drop 134 = .ok (.iaload, 1) := by decide +kernel
theorem dX12_drop_135 : decode cX12_drop 135 = .ok (.ifCond .ne 7, 3) := by decide +kernel
theorem dX12_drop_138 : decode cX12_drop 138 = .ok (.iconst 0, 1) := by decide +kernel
theorem dX12_drop_139 : decode cX12_drop 139 = .ok (.goto 4, 3) := by decide +kernel
theorem dX12_drop_142 : decode cX12_drop 142 = .ok (.iconst 1, 1) := by decide +kernel
theorem dX12_drop_143 : decode cX12_drop 143 = .ok (.istore 9, 2) := by decide +kernel
theorem dX12_drop_145 : decode cX12_drop 145 = .ok (.goto 50, 3) := by decide +kernel
theorem dX12_drop_148 : decode cX12_drop 148 = .ok (.aload_n 0, 1) := by decide +kernel
theorem dX12_drop_149 : decode cX12_drop 149 = .ok (.iload 6, 2) := by decide +kernel
theorem dX12_drop_151 : decode cX12_drop 151 = .ok (.iload 7, 2) := by decide +kernel
theorem dX12_drop_153 : decode cX12_drop 153 = .ok (.invokevirtual 427, 3) := by decide +kernel
theorem dX12_drop_156 : decode cX12_drop 156 = .ok (.ifCond .eq 39, 3) := by decide +kernel
theorem dX12_drop_159 : decode cX12_drop 159 = .ok (.aload_n 0, 1) := by decide +kernel
theorem dX12_drop_160 : decode cX12_drop 160 = .ok (.getfield 421, 3) := by decide +kernel
theorem dX12_drop_163 : decode cX12_drop 163 = .ok (.istore 9, 2) := by decide +kernel
theorem dX12_drop_165 : decode cX12_drop 165 = .ok (.iconst 0, 1) := by decide +kernel
theorem dX12_drop_166 : decode cX12_drop 166 = .ok (.istore 10, 2) := by decide +kernel
theorem dX12_drop_168 : decode cX12_drop 168 = .ok (.iload 10, 2) := by decide +kernel
theorem dX12_drop_170 : decode cX12_drop 170 = .ok (.iload 9, 2) := by decide +kernel
theorem dX12_drop_172 : decode cX12_drop 172 = .ok (.if_icmp .ge 23, 3) := by decide +kernel
theorem dX12_drop_175 : decode cX12_drop 175 = .ok (.aload_n 0, 1) := by decide +kernel
theorem dX12_drop_176 : decode cX12_drop 176 = .ok (.getfield 154, 3) := by decide +kernel
theorem dX12_drop_179 : decode cX12_drop 179 = .ok (.iload 10, 2) := by decide +kernel
theorem dX12_drop_181 : decode cX12_drop 181 = .ok (.aload_n 0, 1) := by decide +kernel
theorem dX12_drop_182 : decode cX12_drop 182 = .ok (.getfield 148, 3) := by decide +kernel
theorem dX12_drop_185 : decode cX12_drop 185 = .ok (.iload 10, 2) := by decide +kernel
theorem dX12_drop_187 : decode cX12_drop 187 = .ok (.iaload, 1) := by decide +kernel
theorem dX12_drop_188 : decode cX12_drop 188 = .ok (.iastore, 1) := by decide +kernel
theorem dX12_drop_189 : decode cX12_drop 189 = .ok (.iinc 10 1, 3) := by decide +kernel
theorem dX12_drop_192 : decode cX12_drop 192 = .ok (.goto (-24), 3) := by decide +kernel
theorem dX12_drop_195 : decode cX12_drop 195 = .ok (.iconst 0, 1) := by decide +kernel
theorem dX12_drop_196 : decode cX12_drop 196 = .ok (.istore 10, 2) := by decide +kernel
theorem dX12_drop_198 : decode cX12_drop 198 = .ok (.iload 10, 2) := by decide +kernel
theorem dX12_drop_200 : decode cX12_drop 200 = .ok (.iload 9, 2) := by decide +kernel
theorem dX12_drop_202 : decode cX12_drop 202 = .ok (.if_icmp .ge 124, 3) := by decide +kernel
theorem dX12_drop_205 : decode cX12_drop 205 = .ok (.aload_n 0, 1) := by decide +kernel
theorem dX12_drop_206 : decode cX12_drop 206 = .ok (.iload_n 3, 1) := by decide +kernel
theorem dX12_drop_207 : decode cX12_drop 207 = .ok (.aload_n 0, 1) := by decide +kernel
theorem dX12_drop_208 : decode cX12_drop 208 = .ok (.aload_n 0, 1) := by decide +kernel
theorem dX12_drop_209 : decode cX12_drop 209 = .ok (.getfield 35, 3) := by decide +kernel
theorem dX12_drop_212 : decode cX12_drop 212 = .ok (.iload 8, 2) := by decide +kernel
theorem dX12_drop_214 : decode cX12_drop 214 = .ok (.iaload, 1) := by decide +kernel
theorem dX12_drop_215 : decode cX12_drop 215 = .ok (.invokevirtual 353, 3) := by decide +kernel
theorem dX12_drop_218 : decode cX12_drop 218 = .ok (.aload_n 0, 1) := by decide +kernel
theorem dX12_drop_219 : decode cX12_drop 219 = .ok (.getfield 154, 3) := by decide +kernel
theorem dX12_drop_222 : decode cX12_drop 222 = .ok (.iload 10, 2) := by decide +kernel
theorem dX12_drop_224 : decode cX12_drop 224 = .ok (.iaload, 1) := by decide +kernel
theorem dX12_drop_225 : decode cX12_drop 225 = .ok (.invokevirtual 406, 3) := by decide +kernel
theorem dX12_drop_228 : decode cX12_drop 228 = .ok (.istore 11, 2) := by decide +kernel
theorem dX12_drop_230 : decode cX12_drop 230 = .ok (.iload 11, 2) := by decide +kernel
theorem dX12_drop_232 : decode cX12_drop 232 = .ok (.ifCond .ge 6, 3) := by decide +kernel
theorem dX12_drop_235 : decode cX12_drop 235 = .ok (.bipush (-2), 2) := by decide +kernel
theorem dX12_drop_237 : decode cX12_drop 237 = .ok (.ireturn, 1) := by decide +kernel
theorem dX12_drop_238 : decode cX12_drop 238 = .ok (.aload_n 0, 1) := by decide +kernel
theorem dX12_drop_239 : decode cX12_drop 239 = .ok (.iload 11, 2) := by decide +kernel
theorem dX12_drop_241 : decode cX12_drop 241 = .ok (.invokevirtual 396, 3) := by decide +kernel
theorem dX12_drop_244 : decode cX12_drop 244 = .ok (.aload_n 0, 1) := by decide +kernel
theorem dX12_drop_245 : decode cX12_drop 245 = .ok (.iload 11, 2) := by decide +kernel
theorem dX12_drop_247 : decode cX12_drop 247 = .ok (.invokevirtual 400, 3) := by decide +kernel
theorem dX12_drop_250 : decode cX12_drop 250 = .ok (.ifCond .ne 7, 3) := by decide +kernel
theorem dX12_drop_253 : decode cX12_drop 253 = .ok (.iconst 1, 1) := by decide +kernel
theorem dX12_drop_254 : decode cX12_drop 254 = .ok (.goto 4, 3) := by decide +kernel
theorem dX12_drop_257 : decode cX12_drop 257 = .ok (.iconst 0, 1) := by decide +kernel
theorem dX12_drop_258 : decode cX12_drop 258 = .ok (.istore 12, 2) := by decide +kernel
theorem dX12_drop_260 : decode cX12_drop 260 = .ok (.iconst 0, 1) := by decide +kernel
theorem dX12_drop_261 : decode cX12_drop 261 = .ok (.istore 13, 2) := by decide +kernel
theorem dX12_drop_263 : decode cX12_drop 263 = .ok (.iload 13, 2) := by decide +kernel
theorem dX12_drop_265 : decode cX12_drop 265 = .ok (.iload 4, 2) := by decide +kernel
theorem dX12_drop_267 : decode cX12_drop 267 = .ok (.if_icmp .ge 33, 3) := by decide +kernel
theorem dX12_drop_270 : decode cX12_drop 270 = .ok (.iload 12, 2) := by decide +kernel
theorem dX12_drop_272 : decode cX12_drop 272 = .ok (.ifCond .ne 15, 3) := by decide +kernel
theorem dX12_drop_275 : decode cX12_drop 275 = .ok (.aload_n 0, 1) := by decide +kernel
theorem dX12_drop_276 : decode cX12_drop 276 = .ok (.getfield 151, 3) := by decide +kernel
theorem dX12_drop_279 : decode cX12_drop 279 = .ok (.iload 13, 2) := by decide +kernel
theorem dX12_drop_281 : decode cX12_drop 281 = .ok (.iaload, 1) := by decide +kernel
theorem dX12_drop_282 : decode cX12_drop 282 = .ok (.iload 11, 2) := by decide +kernel
theorem dX12_drop_284 : decode cX12_drop 284 = .ok (.if_icmp .ne 7, 3) := by decide +kernel
theorem dX12_drop_287 : decode cX12_drop 287 = .ok (.iconst 1, 1) := by decide +kernel
theorem dX12_drop_288 : decode cX12_drop 288 = .ok (.goto 4, 3) := by decide +kernel
theorem dX12_drop_291 : decode cX12_drop 291 = .ok (.iconst 0, 1) := by decide +kernel
theorem dX12_drop_292 : decode cX12_drop 292 = .ok (.istore 12, 2) := by decide +kernel
theorem dX12_drop_294 : decode cX12_drop 294 = .ok (.iinc 13 1, 3) := by decide +kernel
theorem dX12_drop_297 : decode cX12_drop 297 = .ok (.goto (-34), 3) := by decide +kernel
theorem dX12_drop_300 : decode cX12_drop 300 = .ok (.iload 12, 2) := by decide +kernel
theorem dX12_drop_302 : decode cX12_drop 302 = .ok (.ifCond .eq 6, 3) := by decide +kernel
theorem dX12_drop_305 : decode cX12_drop 305 = .ok (.goto 15, 3) := by decide +kernel
theorem dX12_drop_308 : decode cX12_drop 308 = .ok (.aload_n 0, 1) := by decide +kernel
theorem dX12_drop_309 : decode cX12_drop 309 = .ok (.getfield 151, 3) := by decide +kernel
theorem dX12_drop_312 : decode cX12_drop 312 = .ok (.iload 4, 2) := by decide +kernel
theorem dX12_drop_314 : decode cX12_drop 314 = .ok (.iload 11, 2) := by decide +kernel
theorem dX12_drop_316 : decode cX12_drop 316 = .ok (.iastore, 1) := by decide +kernel
theorem dX12_drop_317 : decode cX12_drop 317 = .ok (.iinc 4 1, 3) := by decide +kernel
theorem dX12_drop_320 : decode cX12_drop 320 = .ok (.iinc 10 1, 3) := by decide +kernel
theorem dX12_drop_323 : decode cX12_drop 323 = .ok (.goto (-125), 3) := by decide +kernel
theorem dX12_drop_326 : decode cX12_drop 326 = .ok (.iinc 7 1, 3) := by decide +kernel
theorem dX12_drop_329 : decode cX12_drop 329 = .ok (.goto (-280), 3) := by decide +kernel
theorem dX12_drop_332 : decode cX12_drop 332 = .ok (.iinc 5 1, 3) := by decide +kernel
theorem dX12_drop_335 : decode cX12_drop 335 = .ok (.goto (-305), 3) := by decide +kernel
theorem dX12_drop_338 : decode cX12_drop 338 = .ok (.iconst 0, 1) := by decide +kernel
theorem dX12_drop_339 : decode cX12_drop 339 = .ok (.istore 5, 2) := by decide +kernel
theorem dX12_drop_341 : decode cX12_drop 341 = .ok (.iload 5, 2) := by decide +kernel
theorem dX12_drop_343 : decode cX12_drop 343 = .ok (.iload 4, 2) := by decide +kernel
theorem dX12_drop_345 : decode cX12_drop 345 = .ok (.if_icmp .ge 42, 3) := by decide +kernel
theorem dX12_drop_348 : decode cX12_drop 348 = .ok (.aload_n 0, 1) := by decide +kernel
theorem dX12_drop_349 : decode cX12_drop 349 = .ok (.getfield 120, 3) := by decide +kernel
theorem dX12_drop_352 : decode cX12_drop 352 = .ok (.aload_n 0, 1) := by decide +kernel
theorem dX12_drop_353 : decode cX12_drop 353 = .ok (.getfield 151, 3) := by decide +kernel
theorem dX12_drop_356 : decode cX12_drop 356 = .ok (.iload 5, 2) := by decide +kernel
theorem dX12_drop_358 : decode cX12_drop 358 = .ok (.iaload, 1) := by decide +kernel
theorem dX12_drop_359 : decode cX12_drop 359 = .ok (.aload_n 0, 1) := by decide +kernel
theorem dX12_drop_360 : decode cX12_drop 360 = .ok (.getfield 120, 3) := by decide +kernel
theorem dX12_drop_363 : decode cX12_drop 363 = .ok (.aload_n 0, 1) := by decide +kernel
theorem dX12_drop_364 : decode cX12_drop 364 = .ok (.getfield 151, 3) := by decide +kernel
theorem dX12_drop_367 : decode cX12_drop 367 = .ok (.iload 5, 2) := by decide +kernel
theorem dX12_drop_369 : decode cX12_drop 369 = .ok (.iaload, 1) := by decide +kernel
theorem dX12_drop_370 : decode cX12_drop 370 = .ok (.iaload, 1) := by decide +kernel
theorem dX12_drop_371 : decode cX12_drop 371 = .ok (.iconst 2, 1) := by decide +kernel
theorem dX12_drop_372 : decode cX12_drop 372 = .ok (.if_icmp .ne 7, 3) := by decide +kernel
theorem dX12_drop_375 : decode cX12_drop 375 = .ok (.iconst 4, 1) := by decide +kernel
theorem dX12_drop_376 : decode cX12_drop 376 = .ok (.goto 4, 3) := by decide +kernel
theorem dX12_drop_379 : decode cX12_drop 379 = .ok (.iconst 3, 1) := by decide +kernel
theorem dX12_drop_380 : decode cX12_drop 380 = .ok (.iastore, 1) := by decide +kernel
theorem dX12_drop_381 : decode cX12_drop 381 = .ok (.iinc 5 1, 3) := by decide +kernel
theorem dX12_drop_384 : decode cX12_drop 384 = .ok (.goto (-43), 3) := by decide +kernel
theorem dX12_drop_387 : decode cX12_drop 387 = .ok (.iload 4, 2) := by decide +kernel
theorem dX12_drop_389 : decode cX12_drop 389 = .ok (.ireturn, 1) := by decide +kernel
theorem dX12_loads_0 : decode cX12_loads 0 = .ok (.aload_n 0, 1) := by decide +kernel
theorem dX12_loads_1 : decode cX12_loads 1 = .ok (.iload_n 1, 1) := by decide +kernel
theorem dX12_loads_2 : decode cX12_loads 2 = .ok (.invokevirtual 380, 3) := by decide +kernel
theorem dX12_loads_5 : decode cX12_loads 5 = .ok (.ifCond .eq 12, 3) := by decide +kernel
theorem dX12_loads_8 : decode cX12_loads 8 = .ok (.aload_n 0, 1) := by decide +kernel
theorem dX12_loads_9 : decode cX12_loads 9 = .ok (.getfield 117, 3) := by decide +kernel
theorem dX12_loads_12 : decode cX12_loads 12 = .ok (.iload_n 1, 1) := by decide +kernel
theorem dX12_loads_13 : decode cX12_loads 13 = .ok (.iaload, 1) := by decide +kernel
theorem dX12_loads_14 : decode cX12_loads 14 = .ok (.goto 4, 3) := by decide +kernel
theorem dX12_loads_17 : decode cX12_loads 17 = .ok (.iconst (-1), 1) := by decide +kernel
theorem dX12_loads_18 : decode cX12_loads 18 = .ok (.ireturn, 1) := by decide +kernel
theorem dX12_other_0 : decode cX12_other 0 = .ok (.aload_n 0, 1) := by decide +kernel
theorem dX12_other_1 : decode cX12_other 1 = .ok (.iload_n 1, 1) := by decide +kernel
theorem dX12_other_2 : decode cX12_other 2 = .ok (.invokevirtual 350, 3) := by decide +kernel
theorem dX12_other_5 : decode cX12_other 5 = .ok (.ifCond .ne 5, 3) := by decide +kernel
theorem dX12_other_8 : decode cX12_other 8 = .ok (.iconst 0, 1) := by decide +kernel
theorem dX12_other_9 : decode cX12_other 9 = .ok (.ireturn, 1) := by decide +kernel
theorem dX12_other_10 : decode cX12_other 10 = .ok (.aload_n 0, 1) := by decide +kernel
theorem dX12_other_11 : decode cX12_other 11 = .ok (.aload_n 0, 1) := by decide +kernel
theorem dX12_other_12 : decode cX12_other 12 = .ok (.iload_n 1, 1) := by decide +kernel
theorem dX12_other_13 : decode cX12_other 13 = .ok (.invokevirtual 353, 3) := by decide +kernel
theorem dX12_other_16 : decode cX12_other 16 = .ok (.iload_n 2, 1) := by decide +kernel
theorem dX12_other_17 : decode cX12_other 17 = .ok (.invokevirtual 369, 3) := by decide +kernel
theorem dX12_other_20 : decode cX12_other 20 = .ok (.istore 5, 2) := by decide +kernel
theorem dX12_other_22 : decode cX12_other 22 = .ok (.iload 5, 2) := by decide +kernel
theorem dX12_other_24 : decode cX12_other 24 = .ok (.ifCond .lt 23, 3) := by decide +kernel
theorem dX12_other_27 : decode cX12_other 27 = .ok (.iload_n 3, 1) := by decide +kernel
theorem dX12_other_28 : decode cX12_other 28 = .ok (.ifCond .lt 19, 3) := by decide +kernel
theorem dX12_other_31 : decode cX12_other 31 = .ok (.iload_n 3, 1) := by decide +kernel
theorem dX12_other_32 : decode cX12_other 32 = .ok (.aload_n 0, 1) := by decide +kernel
theorem dX12_other_33 : decode cX12_other 33 = .ok (.getfield 23, 3) := by decide +kernel
theorem dX12_other_36 : decode cX12_other 36 = .ok (.aload_n 0, 1) := by decide +kernel
theorem dX12_other_37 : decode cX12_other 37 = .ok (.getfield 83, 3) := by decide +kernel
theorem dX12_other_40 : decode cX12_other 40 = .ok (.iload 5, 2) := by decide +kernel
theorem dX12_other_42 : decode cX12_other 42 = .ok (.iaload, 1) := by decide +kernel
theorem dX12_other_43 : decode cX12_other 43 = .ok (.iaload, 1) := by decide +kernel
theorem dX12_other_44 : decode cX12_other 44 = .ok (.if_icmp .lt 5, 3) := by decide +kernel
theorem dX12_other_47 : decode cX12_other 47 = .ok (.iconst 0, 1) := by decide +kernel
theorem dX12_other_48 : decode cX12_other 48 = .ok (.ireturn, 1) := by decide +kernel
theorem dX12_other_49 : decode cX12_other 49 = .ok (.bipush 16, 2) := by decide +kernel
theorem dX12_other_51 : decode cX12_other 51 = .ok (.aload_n 0, 1) := by decide +kernel
theorem dX12_other_52 : decode cX12_other 52 = .ok (.getfield 83, 3) := by decide +kernel
theorem dX12_other_55 : decode cX12_other 55 = .ok (.iload 5, 2) := by decide +kernel
theorem dX12_other_57 : decode cX12_other 57 = .ok (.iaload, 1) := by decide +kernel
theorem dX12_other_58 : decode cX12_other 58 = .ok (.imul, 1) := by decide +kernel
theorem dX12_other_59 : decode cX12_other 59 = .ok (.iload_n 3, 1) := by decide +kernel
theorem dX12_other_60 : decode cX12_other 60 = .ok (.iadd, 1) := by decide +kernel
theorem dX12_other_61 : decode cX12_other 61 = .ok (.istore 6, 2) := by decide +kernel
theorem dX12_other_63 : decode cX12_other 63 = .ok (.aload_n 0, 1) := by decide +kernel
theorem dX12_other_64 : decode cX12_other 64 = .ok (.getfield 32, 3) := by decide +kernel
theorem dX12_other_67 : decode cX12_other 67 = .ok (.iload 6, 2) := by decide +kernel
theorem dX12_other_69 : decode cX12_other 69 = .ok (.iaload, 1) := by decide +kernel
theorem dX12_other_70 : decode cX12_other 70 = .ok (.iconst 5, 1) := by decide +kernel
theorem dX12_other_71 : decode cX12_other 71 = .ok (.if_icmp .eq 47, 3) := by decide +kernel
theorem dX12_other_74 : decode cX12_other 74 = .ok (.aload_n 0, 1) := by decide +kernel
theorem dX12_other_75 : decode cX12_other 75 = .ok (.getfield 32, 3) := by decide +kernel
theorem dX12_other_78 : decode cX12_other 78 = .ok (.iload 6, 2) := by decide +kernel
theorem dX12_other_80 : decode cX12_other 80 = .ok (.iaload, 1) := by decide +kernel
theorem dX12_other_81 : decode cX12_other 81 = .ok (.iconst 4, 1) := by decide +kernel
theorem dX12_other_82 : decode cX12_other 82 = .ok (.if_icmp .ge 20, 3) := by decide +kernel
theorem dX12_other_85 : decode cX12_other 85 = .ok (.aload_n 0, 1) := by decide +kernel
theorem dX12_other_86 : decode cX12_other 86 = .ok (.aload_n 0, 1) := by decide +kernel
theorem dX12_other_87 : decode cX12_other 87 = .ok (.getfield 83, 3) := by decide +kernel
theorem dX12_other_90 : decode cX12_other 90 = .ok (.iload 5, 2) := by decide +kernel
theorem dX12_other_92 : decode cX12_other 92 = .ok (.iaload, 1) := by decide +kernel
theorem dX12_other_93 : decode cX12_other 93 = .ok (.iload_n 3, 1) := by decide +kernel
theorem dX12_other_94 : decode cX12_other 94 = .ok (.iload 4, 2) := by decide +kernel
theorem dX12_other_96 : decode cX12_other 96 = .ok (.invokevirtual 418, 3) := by decide +kernel
theorem dX12_other_99 : decode cX12_other 99 = .ok (.ifCond .eq 19, 3) := by decide +kernel
theorem dX12_other_102 : decode cX12_other 102 = .ok (.aload_n 0, 1) := by decide +kernel
theorem dX12_other_103 : decode cX12_other 103 = .ok (.getfield 32, 3) := by decide +kernel
theorem dX12_other_106 : decode cX12_other 106 = .ok (.iload 6, 2) := by decide +kernel
theorem dX12_other_108 : decode cX12_other 108 = .ok (.iaload, 1) := by decide +kernel
theorem dX12_other_109 : decode cX12_other 109 = .ok (.iconst 4, 1) := by decide +kernel
theorem dX12_other_110 : decode cX12_other 110 = .ok (.if_icmp .ne 10, 3) := by decide +kernel
theorem dX12_other_113 : decode cX12_other 113 = .ok (.iload 4, 2) := by decide +kernel
theorem dX12_other_115 : decode cX12_other 115 = .ok (.ifCond .ge 5, 3) := by decide +kernel
theorem dX12_other_118 : decode cX12_other 118 = .ok (.iconst 0, 1) := by decide +kernel
theorem dX12_other_119 : decode cX12_other 119 = .ok (.ireturn, 1) := by decide +kernel
theorem dX12_other_120 : decode cX12_other 120 = .ok (.aload_n 0, 1) := by decide +kernel
theorem dX12_other_121 : decode cX12_other 121 = .ok (.getfield 89, 3) := by decide +kernel
theorem dX12_other_124 : decode cX12_other 124 = .ok (.bipush 16, 2) := by decide +kernel
theorem dX12_other_126 : decode cX12_other 126 = .ok (.iload 5, 2) := by decide +kernel
theorem dX12_other_128 : decode cX12_other 128 = .ok (.imul, 1) := by decide +kernel
theorem dX12_other_129 : decode cX12_other 129 = .ok (.iload_n 3, 1) := by decide +kernel
theorem dX12_other_130 : decode cX12_other 130 = .ok (.iadd, 1) := by decide +kernel
theorem dX12_other_131 : decode cX12_other 131 = .ok (.iaload, 1) := by decide +kernel
theorem dX12_other_132 : decode cX12_other 132 = .ok (.istore 7, 2) := by decide +kernel
theorem dX12_other_134 : decode cX12_other 134 = .ok (.aload_n 0, 1) := by decide +kernel
theorem dX12_other_135 : decode cX12_other 135 = .ok (.getfield 89, 3) := by decide +kernel
theorem dX12_other_138 : decode cX12_other 138 = .ok (.bipush 16, 2) := by decide +kernel
theorem dX12_other_140 : decode cX12_other 140 = .ok (.iload 5, 2) := by decide +kernel
theorem dX12_other_142 : decode cX12_other 142 = .ok (.imul, 1) := by decide +kernel
theorem dX12_other_143 : decode cX12_other 143 = .ok (.iload_n 3, 1) := by decide +kernel
theorem dX12_other_144 : decode cX12_other 144 = .ok (.iadd, 1) := by decide +kernel
theorem dX12_other_145 : decode cX12_other 145 = .ok (.iload 4, 2) := by decide +kernel
theorem dX12_other_147 : decode cX12_other 147 = .ok (.iastore, 1) := by decide +kernel
theorem dX12_other_148 : decode cX12_other 148 = .ok (.aload_n 0, 1) := by decide +kernel
theorem dX12_other_149 : decode cX12_other 149 = .ok (.aload_n 0, 1) := by decide +kernel
theorem dX12_other_150 : decode cX12_other 150 = .ok (.getfield 77, 3) := by decide +kernel
theorem dX12_other_153 : decode cX12_other 153 = .ok (.iload 5, 2) := by decide +kernel
theorem dX12_other_155 : decode cX12_other 155 = .ok (.iaload, 1) := by decide +kernel
theorem dX12_other_156 : decode cX12_other 156 = .ok (.iload_n 2, 1) := by decide +kernel
theorem dX12_other_157 : decode cX12_other 157 = .ok (.aload_n 0, 1) := by decide +kernel
theorem dX12_other_158 : decode cX12_other 158 = .ok (.getfield 83, 3) := by decide +kernel
theorem dX12_other_161 : decode cX12_other 161 = .ok (.iload 5, 2) := by decide +kernel
theorem dX12_other_163 : decode cX12_other 163 = .ok (.iaload, 1) := by decide +kernel
theorem dX12_other_164 : decode cX12_other 164 = .ok (.aload_n 0, 1) := by decide +kernel
theorem dX12_other_165 : decode cX12_other 165 = .ok (.getfield 89, 3) := by decide +kernel
theorem dX12_other_168 : decode cX12_other 168 = .ok (.bipush 16, 2) := by decide +kernel
theorem dX12_other_170 : decode cX12_other 170 = .ok (.iload 5, 2) := by decide +kernel
theorem dX12_other_172 : decode cX12_other 172 = .ok (.imul, 1) := by decide +kernel
theorem dX12_other_173 : decode cX12_other 173 = .ok (.invokevirtual 430, 3) := by decide +kernel
theorem dX12_other_176 : decode cX12_other 176 = .ok (.ifCond .eq 19, 3) := by decide +kernel
theorem dX12_other_179 : decode cX12_other 179 = .ok (.aload_n 0, 1) := by decide +kernel
theorem dX12_other_180 : decode cX12_other 180 = .ok (.getfield 89, 3) := by decide +kernel
theorem dX12_other_183 : decode cX12_other 183 = .ok (.bipush 16, 2) := by decide +kernel
theorem dX12_other_185 : decode cX12_other 185 = .ok (.iload 5, 2) := by decide +kernel
theorem dX12_other_187 : decode cX12_other 187 = .ok (.imul, 1) := by decide +kernel
theorem dX12_other_188 : decode cX12_other 188 = .ok (.iload_n 3, 1) := by decide +kernel
theorem dX12_other_189 : decode cX12_other 189 = .ok (.iadd, 1) := by decide +kernel
theorem dX12_other_190 : decode cX12_other 190 = .ok (.iload 7, 2) := by decide +kernel
theorem dX12_other_192 : decode cX12_other 192 = .ok (.iastore, 1) := by decide +kernel
theorem dX12_other_193 : decode cX12_other 193 = .ok (.iconst 0, 1) := by decide +kernel
theorem dX12_other_194 : decode cX12_other 194 = .ok (.ireturn, 1) := by decide +kernel
theorem dX12_other_195 : decode cX12_other 195 = .ok (.aload_n 0, 1) := by decide +kernel
theorem dX12_other_196 : decode cX12_other 196 = .ok (.getfield 86, 3) := by decide +kernel
theorem dX12_other_199 : decode cX12_other 199 = .ok (.iload 5, 2) := by decide +kernel
theorem dX12_other_201 : decode cX12_other 201 = .ok (.dup2, 1) := by decide +kernel
theorem dX12_other_202 : decode cX12_other 202 = .ok (.iaload, 1) := by decide +kernel
theorem dX12_other_203 : decode cX12_other 203 = .ok (.iconst 1, 1) := by decide +kernel
theorem dX12_other_204 : decode cX12_other 204 = .ok (.iadd, 1) := by decide +kernel
theorem dX12_other_205 : decode cX12_other 205 = .ok (.iastore, 1) := by decide +kernel
theorem dX12_other_206 : decode cX12_other 206 = .ok (.iconst 1, 1) := by decide +kernel
theorem dX12_other_207 : decode cX12_other 207 = .ok (.ireturn, 1) := by decide +kernel
theorem dX12_ends_0 : decode cX12_ends 0 = .ok (.aload_n 0, 1) := by decide +kernel
theorem dX12_ends_1 : decode cX12_ends 1 = .ok (.iload_n 1, 1) := by decide +kernel
theorem dX12_ends_2 : decode cX12_ends 2 = .ok (.putfield 434, 3) := by decide +kernel
theorem dX12_ends_5 : decode cX12_ends 5 = .ok (.aload_n 0, 1) := by decide +kernel
theorem dX12_ends_6 : decode cX12_ends 6 = .ok (.aload_n 0, 1) := by decide +kernel
theorem dX12_ends_7 : decode cX12_ends 7 = .ok (.getfield 129, 3) := by decide +kernel
theorem dX12_ends_10 : decode cX12_ends 10 = .ok (.iload_n 2, 1) := by decide +kernel
theorem dX12_ends_11 : decode cX12_ends 11 = .ok (.iaload, 1) := by decide +kernel
theorem dX12_ends_12 : decode cX12_ends 12 = .ok (.putfield 157, 3) := by decide +kernel
theorem dX12_ends_15 : decode cX12_ends 15 = .ok (.aload_n 0, 1) := by decide +kernel
theorem dX12_ends_16 : decode cX12_ends 16 = .ok (.aload_n 0, 1) := by decide +kernel
theorem dX12_ends_17 : decode cX12_ends 17 = .ok (.getfield 126, 3) := by decide +kernel
theorem dX12_ends_20 : decode cX12_ends 20 = .ok (.iload_n 2, 1) := by decide +kernel
