theorem dX11_beginAnew_51 : decode cX11_beginAnew 51 = .ok (.aload_n 0, 1) := by decide +kernel
theorem dX11_beginAnew_52 : decode cX11_beginAnew 52 = .ok (.iconst 0, 1) := by decide +kernel
theorem dX11_beginAnew_53 : decode cX11_beginAnew 53 = .ok (.putfield 306, 3) := by decide +kernel
theorem dX11_beginAnew_56 : decode cX11_beginAnew 56 = .ok (.return_, 1) := by decide +kernel
theorem dX11_tellRows_0 : decode cX11_tellRows 0 = .ok (.aload_n 0, 1) := by decide +kernel
theorem dX11_tellRows_1 : decode cX11_tellRows 1 = .ok (.getfield 53, 3) := by decide +kernel
theorem dX11_tellRows_4 : decode cX11_tellRows 4 = .ok (.getfield 102, 3) := by decide +kernel
theorem dX11_tellRows_7 : decode cX11_tellRows 7 = .ok (.aload_n 0, 1) := by decide +kernel
theorem dX11_tellRows_8 : decode cX11_tellRows 8 = .ok (.getfield 32, 3) := by decide +kernel
theorem dX11_tellRows_11 : decode cX11_tellRows 11 = .ok (.getfield 319, 3) := by decide +kernel
theorem dX11_tellRows_14 : decode cX11_tellRows 14 = .ok (.invokevirtual 243, 3) := by decide +kernel
theorem dX11_tellRows_17 : decode cX11_tellRows 17 = .ok (.istore_n 1, 1) := by decide +kernel
theorem dX11_tellRows_18 : decode cX11_tellRows 18 = .ok (.aload_n 0, 1) := by decide +kernel
theorem dX11_tellRows_19 : decode cX11_tellRows 19 = .ok (.iconst 0, 1) := by decide +kernel
theorem dX11_tellRows_20 : decode cX11_tellRows 20 = .ok (.putfield 306, 3) := by decide +kernel
theorem dX11_tellRows_23 : decode cX11_tellRows 23 = .ok (.aload_n 0, 1) := by decide +kernel
theorem dX11_tellRows_24 : decode cX11_tellRows 24 = .ok (.getfield 53, 3) := by decide +kernel
theorem dX11_tellRows_27 : decode cX11_tellRows 27 = .ok (.iload_n 1, 1) := by decide +kernel
theorem dX11_tellRows_28 : decode cX11_tellRows 28 = .ok (.invokevirtual 322, 3) := by decide +kernel
theorem dX11_tellRows_31 : decode cX11_tellRows 31 = .ok (.istore_n 2, 1) := by decide +kernel
theorem dX11_tellRows_32 : decode cX11_tellRows 32 = .ok (.iload_n 2, 1) := by decide +kernel
theorem dX11_tellRows_33 : decode cX11_tellRows 33 = .ok (.aload_n 0, 1) := by decide +kernel
theorem dX11_tellRows_34 : decode cX11_tellRows 34 = .ok (.getfield 53, 3) := by decide +kernel
theorem dX11_tellRows_37 : decode cX11_tellRows 37 = .ok (.iload_n 1, 1) := by decide +kernel
theorem dX11_tellRows_38 : decode cX11_tellRows 38 = .ok (.invokevirtual 325, 3) := by decide +kernel
theorem dX11_tellRows_41 : decode cX11_tellRows 41 = .ok (.if_icmp .ge 81, 3) := by decide +kernel
theorem dX11_tellRows_44 : decode cX11_tellRows 44 = .ok (.aload_n 0, 1) := by decide +kernel
theorem dX11_tellRows_45 : decode cX11_tellRows 45 = .ok (.getfield 53, 3) := by decide +kernel
theorem dX11_tellRows_48 : decode cX11_tellRows 48 = .ok (.getfield 102, 3) := by decide +kernel
theorem dX11_tellRows_51 : decode cX11_tellRows 51 = .ok (.aload_n 0, 1) := by decide +kernel
theorem dX11_tellRows_52 : decode cX11_tellRows 52 = .ok (.getfield 53, 3) := by decide +kernel
theorem dX11_tellRows_55 : decode cX11_tellRows 55 = .ok (.getfield 278, 3) := by decide +kernel
theorem dX11_tellRows_58 : decode cX11_tellRows 58 = .ok (.iload_n 2, 1) := by decide +kernel
theorem dX11_tellRows_59 : decode cX11_tellRows 59 = .ok (.iaload, 1) := by decide +kernel
theorem dX11_tellRows_60 : decode cX11_tellRows 60 = .ok (.aload_n 0, 1) := by decide +kernel
theorem dX11_tellRows_61 : decode cX11_tellRows 61 = .ok (.getfield 32, 3) := by decide +kernel
theorem dX11_tellRows_64 : decode cX11_tellRows 64 = .ok (.getfield 319, 3) := by decide +kernel
theorem dX11_tellRows_67 : decode cX11_tellRows 67 = .ok (.invokevirtual 254, 3) := by decide +kernel
theorem dX11_tellRows_70 : decode cX11_tellRows 70 = .ok (.ifCond .eq 46, 3) := by decide +kernel
theorem dX11_tellRows_73 : decode cX11_tellRows 73 = .ok (.aload_n 0, 1) := by decide +kernel
theorem dX11_tellRows_74 : decode cX11_tellRows 74 = .ok (.getfield 32, 3) := by decide +kernel
theorem dX11_tellRows_77 : decode cX11_tellRows 77 = .ok (.aload_n 0, 1) := by decide +kernel
theorem dX11_tellRows_78 : decode cX11_tellRows 78 = .ok (.getfield 53, 3) := by decide +kernel
theorem dX11_tellRows_81 : decode cX11_tellRows 81 = .ok (.iload_n 2, 1) := by decide +kernel
theorem dX11_tellRows_82 : decode cX11_tellRows 82 = .ok (.invokevirtual 328, 3) := by decide +kernel
theorem dX11_tellRows_85 : decode cX11_tellRows 85 = .ok (.ifCond .eq 31, 3) := by decide +kernel
theorem dX11_tellRows_88 : decode cX11_tellRows 88 = .ok (.aload_n 0, 1) := by decide +kernel
theorem dX11_tellRows_89 : decode cX11_tellRows 89 = .ok (.getfield 83, 3) := by decide +kernel
theorem dX11_tellRows_92 : decode cX11_tellRows 92 = .ok (.aload_n 0, 1) := by decide +kernel
theorem dX11_tellRows_93 : decode cX11_tellRows 93 = .ok (.getfield 306, 3) := by decide +kernel
theorem dX11_tellRows_96 : decode cX11_tellRows 96 = .ok (.aload_n 0, 1) := by decide +kernel
theorem dX11_tellRows_97 : decode cX11_tellRows 97 = .ok (.getfield 53, 3) := by decide +kernel
theorem dX11_tellRows_100 : decode cX11_tellRows 100 = .ok (.getfield 332, 3) := by decide +kernel
theorem dX11_tellRows_103 : decode cX11_tellRows 103 = .ok (.iload_n 2, 1) := by decide +kernel
theorem dX11_tellRows_104 : decode cX11_tellRows 104 = .ok (.iaload, 1) := by decide +kernel
theorem dX11_tellRows_105 : decode cX11_tellRows 105 = .ok (.iastore, 1) := by decide +kernel
theorem dX11_tellRows_106 : decode cX11_tellRows 106 = .ok (.aload_n 0, 1) := by decide +kernel
theorem dX11_tellRows_107 : decode cX11_tellRows 107 = .ok (.dup, 1) := by decide +kernel
theorem dX11_tellRows_108 : decode cX11_tellRows 108 = .ok (.getfield 306, 3) := by decide +kernel
theorem dX11_tellRows_111 : decode cX11_tellRows 111 = .ok (.iconst 1, 1) := by decide +kernel
theorem dX11_tellRows_112 : decode cX11_tellRows 112 = .ok (.iadd, 1) := by decide +kernel
theorem dX11_tellRows_113 : decode cX11_tellRows 113 = .ok (.putfield 306, 3) := by decide +kernel
theorem dX11_tellRows_116 : decode cX11_tellRows 116 = .ok (.iinc 2 1, 3) := by decide +kernel
theorem dX11_tellRows_119 : decode cX11_tellRows 119 = .ok (.goto (-87), 3) := by decide +kernel
theorem dX11_tellRows_122 : decode cX11_tellRows 122 = .ok (.return_, 1) := by decide +kernel
theorem dX11_openUnits_0 : decode cX11_openUnits 0 = .ok (.iconst 0, 1) := by decide +kernel
theorem dX11_openUnits_1 : decode cX11_openUnits 1 = .ok (.istore_n 1, 1) := by decide +kernel
theorem dX11_openUnits_2 : decode cX11_openUnits 2 = .ok (.iconst 0, 1) := by decide +kernel
theorem dX11_openUnits_3 : decode cX11_openUnits 3 = .ok (.istore_n 2, 1) := by decide +kernel
theorem dX11_openUnits_4 : decode cX11_openUnits 4 = .ok (.iload_n 2, 1) := by decide +kernel
theorem dX11_openUnits_5 : decode cX11_openUnits 5 = .ok (.iconst 4, 1) := by decide +kernel
theorem dX11_openUnits_6 : decode cX11_openUnits 6 = .ok (.if_icmp .ge 24, 3) := by decide +kernel
theorem dX11_openUnits_9 : decode cX11_openUnits 9 = .ok (.aload_n 0, 1) := by decide +kernel
theorem dX11_openUnits_10 : decode cX11_openUnits 10 = .ok (.getfield 67, 3) := by decide +kernel
theorem dX11_openUnits_13 : decode cX11_openUnits 13 = .ok (.iload_n 2, 1) := by decide +kernel
theorem dX11_openUnits_14 : decode cX11_openUnits 14 = .ok (.aaload, 1) := by decide +kernel
theorem dX11_openUnits_15 : decode cX11_openUnits 15 = .ok (.getfield 160, 3) := by decide +kernel
theorem dX11_openUnits_18 : decode cX11_openUnits 18 = .ok (.ifCond .eq 6, 3) := by decide +kernel
theorem dX11_openUnits_21 : decode cX11_openUnits 21 = .ok (.iinc 1 1, 3) := by decide +kernel
theorem dX11_openUnits_24 : decode cX11_openUnits 24 = .ok (.iinc 2 1, 3) := by decide +kernel
theorem dX11_openUnits_27 : decode cX11_openUnits 27 = .ok (.goto (-23), 3) := by decide +kernel
theorem dX11_openUnits_30 : decode cX11_openUnits 30 = .ok (.iload_n 1, 1) := by decide +kernel
theorem dX11_openUnits_31 : decode cX11_openUnits 31 = .ok (.ireturn, 1) := by decide +kernel
theorem dX11_openUnit_0 : decode cX11_openUnit 0 = .ok (.iload_n 1, 1) := by decide +kernel
theorem dX11_openUnit_1 : decode cX11_openUnit 1 = .ok (.ifCond .lt 20, 3) := by decide +kernel
theorem dX11_openUnit_4 : decode cX11_openUnit 4 = .ok (.iload_n 1, 1) := by decide +kernel
theorem dX11_openUnit_5 : decode cX11_openUnit 5 = .ok (.iconst 4, 1) := by decide +kernel
theorem dX11_openUnit_6 : decode cX11_openUnit 6 = .ok (.if_icmp .ge 15, 3) := by decide +kernel
theorem dX11_openUnit_9 : decode cX11_openUnit 9 = .ok (.aload_n 0, 1) := by decide +kernel
theorem dX11_openUnit_10 : decode cX11_openUnit 10 = .ok (.getfield 67, 3) := by decide +kernel
theorem dX11_openUnit_13 : decode cX11_openUnit 13 = .ok (.iload_n 1, 1) := by decide +kernel
theorem dX11_openUnit_14 : decode cX11_openUnit 14 = .ok (.aaload, 1) := by decide +kernel
theorem dX11_openUnit_15 : decode cX11_openUnit 15 = .ok (.getfield 160, 3) := by decide +kernel
theorem dX11_openUnit_18 : decode cX11_openUnit 18 = .ok (.ifCond .ne 7, 3) := by decide +kernel
theorem dX11_openUnit_21 : decode cX11_openUnit 21 = .ok (.aconst_null, 1) := by decide +kernel
theorem dX11_openUnit_22 : decode cX11_openUnit 22 = .ok (.goto 9, 3) := by decide +kernel
theorem dX11_openUnit_25 : decode cX11_openUnit 25 = .ok (.aload_n 0, 1) := by decide +kernel
theorem dX11_openUnit_26 : decode cX11_openUnit 26 = .ok (.getfield 67, 3) := by decide +kernel
theorem dX11_openUnit_29 : decode cX11_openUnit 29 = .ok (.iload_n 1, 1) := by decide +kernel
theorem dX11_openUnit_30 : decode cX11_openUnit 30 = .ok (.aaload, 1) := by decide +kernel
theorem dX11_openUnit_31 : decode cX11_openUnit 31 = .ok (.areturn, 1) := by decide +kernel
theorem dX11_thingNumbered_0 : decode cX11_thingNumbered 0 = .ok (.iload_n 1, 1) := by decide +kernel
theorem dX11_thingNumbered_1 : decode cX11_thingNumbered 1 = .ok (.ifCond .ge 5, 3) := by decide +kernel
theorem dX11_thingNumbered_4 : decode cX11_thingNumbered 4 = .ok (.aconst_null, 1) := by decide +kernel
theorem dX11_thingNumbered_5 : decode cX11_thingNumbered 5 = .ok (.areturn, 1) := by decide +kernel
theorem dX11_thingNumbered_6 : decode cX11_thingNumbered 6 = .ok (.aload_n 0, 1) := by decide +kernel
theorem dX11_thingNumbered_7 : decode cX11_thingNumbered 7 = .ok (.iload_n 1, 1) := by decide +kernel
theorem dX11_thingNumbered_8 : decode cX11_thingNumbered 8 = .ok (.bipush 100, 2) := by decide +kernel
theorem dX11_thingNumbered_10 : decode cX11_thingNumbered 10 = .ok (.idiv, 1) := by decide +kernel
theorem dX11_thingNumbered_11 : decode cX11_thingNumbered 11 = .ok (.invokevirtual 167, 3) := by decide +kernel
theorem dX11_thingNumbered_14 : decode cX11_thingNumbered 14 = .ok (.astore_n 2, 1) := by decide +kernel
theorem dX11_thingNumbered_15 : decode cX11_thingNumbered 15 = .ok (.aload_n 2, 1) := by decide +kernel
theorem dX11_thingNumbered_16 : decode cX11_thingNumbered 16 = .ok (.ifnonnull 7, 3) := by decide +kernel
theorem dX11_thingNumbered_19 : decode cX11_thingNumbered 19 = .ok (.aconst_null, 1) := by decide +kernel
theorem dX11_thingNumbered_20 : decode cX11_thingNumbered 20 = .ok (.goto 11, 3) := by decide +kernel
theorem dX11_thingNumbered_23 : decode cX11_thingNumbered 23 = .ok (.aload_n 2, 1) := by decide +kernel
theorem dX11_thingNumbered_24 : decode cX11_thingNumbered 24 = .ok (.iload_n 1, 1) := by decide +kernel
theorem dX11_thingNumbered_25 : decode cX11_thingNumbered 25 = .ok (.bipush 100, 2) := by decide +kernel
theorem dX11_thingNumbered_27 : decode cX11_thingNumbered 27 = .ok (.irem, 1) := by decide +kernel
theorem dX11_thingNumbered_28 : decode cX11_thingNumbered 28 = .ok (.invokevirtual 334, 3) := by decide +kernel
theorem dX11_thingNumbered_31 : decode cX11_thingNumbered 31 = .ok (.areturn, 1) := by decide +kernel
theorem dX11_usableThing_0 : decode cX11_usableThing 0 = .ok (.aload_n 0, 1) := by decide +kernel
theorem dX11_usableThing_1 : decode cX11_usableThing 1 = .ok (.iload_n 1, 1) := by decide +kernel
theorem dX11_usableThing_2 : decode cX11_usableThing 2 = .ok (.invokevirtual 210, 3) := by decide +kernel
theorem dX11_usableThing_5 : decode cX11_usableThing 5 = .ok (.astore_n 2, 1) := by decide +kernel
theorem dX11_usableThing_6 : decode cX11_usableThing 6 = .ok (.aload_n 2, 1) := by decide +kernel
theorem dX11_usableThing_7 : decode cX11_usableThing 7 = .ok (.ifnonnull 5, 3) := by decide +kernel
theorem dX11_usableThing_10 : decode cX11_usableThing 10 = .ok (.aconst_null, 1) := by decide +kernel
theorem dX11_usableThing_11 : decode cX11_usableThing 11 = .ok (.areturn, 1) := by decide +kernel
theorem dX11_usableThing_12 : decode cX11_usableThing 12 = .ok (.aload_n 0, 1) := by decide +kernel
theorem dX11_usableThing_13 : decode cX11_usableThing 13 = .ok (.getfield 67, 3) := by decide +kernel
theorem dX11_usableThing_16 : decode cX11_usableThing 16 = .ok (.iload_n 1, 1) := by decide +kernel
theorem dX11_usableThing_17 : decode cX11_usableThing 17 = .ok (.bipush 100, 2) := by decide +kernel
theorem dX11_usableThing_19 : decode cX11_usableThing 19 = .ok (.idiv, 1) := by decide +kernel
theorem dX11_usableThing_20 : decode cX11_usableThing 20 = .ok (.aaload, 1) := by decide +kernel
theorem dX11_usableThing_21 : decode cX11_usableThing 21 = .ok (.aload_n 2, 1) := by decide +kernel
theorem dX11_usableThing_22 : decode cX11_usableThing 22 = .ok (.invokevirtual 220, 3) := by decide +kernel
theorem dX11_usableThing_25 : decode cX11_usableThing 25 = .ok (.aload_n 2, 1) := by decide +kernel
theorem dX11_usableThing_26 : decode cX11_usableThing 26 = .ok (.invokevirtual 337, 3) := by decide +kernel
theorem dX11_usableThing_29 : decode cX11_usableThing 29 = .ok (.ifCond .eq 7, 3) := by decide +kernel
theorem dX11_usableThing_32 : decode cX11_usableThing 32 = .ok (.aload_n 2, 1) := by decide +kernel
theorem dX11_usableThing_33 : decode cX11_usableThing 33 = .ok (.goto 4, 3) := by decide +kernel
theorem dX11_usableThing_36 : decode cX11_usableThing 36 = .ok (.aconst_null, 1) := by decide +kernel
theorem dX11_usableThing_37 : decode cX11_usableThing 37 = .ok (.areturn, 1) := by decide +kernel
theorem dX11_memberOf_0 : decode cX11_memberOf 0 = .ok (.aload_n 1, 1) := by decide +kernel
theorem dX11_memberOf_1 : decode cX11_memberOf 1 = .ok (.ifnonnull 7, 3) := by decide +kernel
theorem dX11_memberOf_4 : decode cX11_memberOf 4 = .ok (.aconst_null, 1) := by decide +kernel
theorem dX11_memberOf_5 : decode cX11_memberOf 5 = .ok (.goto 18, 3) := by decide +kernel
theorem dX11_memberOf_8 : decode cX11_memberOf 8 = .ok (.aload_n 0, 1) := by decide +kernel
theorem dX11_memberOf_9 : decode cX11_memberOf 9 = .ok (.getfield 53, 3) := by decide +kernel
theorem dX11_memberOf_12 : decode cX11_memberOf 12 = .ok (.getfield 102, 3) := by decide +kernel
theorem dX11_memberOf_15 : decode cX11_memberOf 15 = .ok (.aload_n 1, 1) := by decide +kernel
theorem dX11_memberOf_16 : decode cX11_memberOf 16 = .ok (.getfield 200, 3) := by decide +kernel
theorem dX11_memberOf_19 : decode cX11_memberOf 19 = .ok (.iload_n 2, 1) := by decide +kernel
theorem dX11_memberOf_20 : decode cX11_memberOf 20 = .ok (.invokevirtual 135, 3) := by decide +kernel
theorem dX11_memberOf_23 : decode cX11_memberOf 23 = .ok (.areturn, 1) := by decide +kernel
theorem dX12_init_0 : decode cX12_init 0 = .ok (.aload_n 0, 1) := by decide +kernel
theorem dX12_init_1 : decode cX12_init 1 = .ok (.invokespecial 1, 3) := by decide +kernel
theorem dX12_init_4 : decode cX12_init 4 = .ok (.aload_n 0, 1) := by decide +kernel
theorem dX12_init_5 : decode cX12_init 5 = .ok (.sipush 3000, 3) := by decide +kernel
theorem dX12_init_8 : decode cX12_init 8 = .ok (.newarray .int, 2) := by decide +kernel
theorem dX12_init_10 : decode cX12_init 10 = .ok (.putfield 7, 3) := by decide +kernel
theorem dX12_init_13 : decode cX12_init 13 = .ok (.aload_n 0, 1) := by decide +kernel
theorem dX12_init_14 : decode cX12_init 14 = .ok (.bipush 26, 2) := by decide +kernel
theorem dX12_init_16 : decode cX12_init 16 = .ok (.newarray .long, 2) := by decide +kernel
theorem dX12_init_18 : decode cX12_init 18 = .ok (.putfield 13, 3) := by decide +kernel
theorem dX12_init_21 : decode cX12_init 21 = .ok (.aload_n 0, 1) := by decide +kernel
theorem dX12_init_22 : decode cX12_init 22 = .ok (.bipush 26, 2) := by decide +kernel
theorem dX12_init_24 : decode cX12_init 24 = .ok (.newarray .int, 2) := by decide +kernel
theorem dX12_init_26 : decode cX12_init 26 = .ok (.putfield 17, 3) := by decide +kernel
theorem dX12_init_29 : decode cX12_init 29 = .ok (.aload_n 0, 1) := by decide +kernel
theorem dX12_init_30 : decode cX12_init 30 = .ok (.bipush 26, 2) := by decide +kernel
theorem dX12_init_32 : decode cX12_init 32 = .ok (.newarray .int, 2) := by decide +kernel
theorem dX12_init_34 : decode cX12_init 34 = .ok (.putfield 20, 3) := by decide +kernel
theorem dX12_init_37 : decode cX12_init 37 = .ok (.aload_n 0, 1) := by decide +kernel
theorem dX12_init_38 : decode cX12_init 38 = .ok (.bipush 26, 2) := by decide +kernel
theorem dX12_init_40 : decode cX12_init 40 = .ok (.newarray .int, 2) := by decide +kernel
theorem dX12_init_42 : decode cX12_init 42 = .ok (.putfield 23, 3) := by decide +kernel
theorem dX12_init_45 : decode cX12_init 45 = .ok (.aload_n 0, 1) := by decide +kernel
theorem dX12_init_46 : decode cX12_init 46 = .ok (.bipush 26, 2) := by decide +kernel
theorem dX12_init_48 : decode cX12_init 48 = .ok (.newarray .int, 2) := by decide +kernel
theorem dX12_init_50 : decode cX12_init 50 = .ok (.putfield 26, 3) := by decide +kernel
theorem dX12_init_53 : decode cX12_init 53 = .ok (.aload_n 0, 1) := by decide +kernel
theorem dX12_init_54 : decode cX12_init 54 = .ok (.sipush 416, 3) := by decide +kernel
theorem dX12_init_57 : decode cX12_init 57 = .ok (.newarray .long, 2) := by decide +kernel
theorem dX12_init_59 : decode cX12_init 59 = .ok (.putfield 29, 3) := by decide +kernel
theorem dX12_init_62 : decode cX12_init 62 = .ok (.aload_n 0, 1) := by decide +kernel
theorem dX12_init_63 : decode cX12_init 63 = .ok (.sipush 416, 3) := by decide +kernel
theorem dX12_init_66 : decode cX12_init 66 = .ok (.newarray .int, 2) := by decide +kernel
theorem dX12_init_68 : decode cX12_init 68 = .ok (.putfield 32, 3) := by decide +kernel
theorem dX12_init_71 : decode cX12_init 71 = .ok (.aload_n 0, 1) := by decide +kernel
theorem dX12_init_72 : decode cX12_init 72 = .ok (.sipush 416, 3) := by decide +kernel
theorem dX12_init_75 : decode cX12_init 75 = .ok (.newarray .int, 2) := by decide +kernel
theorem dX12_init_77 : decode cX12_init 77 = .ok (.putfield 35, 3) := by decide +kernel
theorem dX12_init_80 : decode cX12_init 80 = .ok (.aload_n 0, 1) := by decide +kernel
theorem dX12_init_81 : decode cX12_init 81 = .ok (.sipush 416, 3) := by decide +kernel
theorem dX12_init_84 : decode cX12_init 84 = .ok (.newarray .int, 2) := by decide +kernel
theorem dX12_init_86 : decode cX12_init 86 = .ok (.putfield 38, 3) := by decide +kernel
theorem dX12_init_89 : decode cX12_init 89 = .ok (.aload_n 0, 1) := by decide +kernel
theorem dX12_init_90 : decode cX12_init 90 = .ok (.sipush 416, 3) := by decide +kernel
theorem dX12_init_93 : decode cX12_init 93 = .ok (.newarray .int, 2) := by decide +kernel
theorem dX12_init_95 : decode cX12_init 95 = .ok (.putfield 41, 3) := by decide +kernel
theorem dX12_init_98 : decode cX12_init 98 = .ok (.aload_n 0, 1) := by decide +kernel
theorem dX12_init_99 : decode cX12_init 99 = .ok (.sipush 416, 3) := by decide +kernel
theorem dX12_init_102 : decode cX12_init 102 = .ok (.newarray .int, 2) := by decide +kernel
theorem dX12_init_104 : decode cX12_init 104 = .ok (.putfield 44, 3) := by decide +kernel
theorem dX12_init_107 : decode cX12_init 107 = .ok (.aload_n 0, 1) := by decide +kernel
theorem dX12_init_108 : decode cX12_init 108 = .ok (.sipush 416, 3) := by decide +kernel
theorem dX12_init_111 : decode cX12_init 111 = .ok (.newarray .int, 2) := by decide +kernel
theorem dX12_init_113 : decode cX12_init 113 = .ok (.putfield 47, 3) := by decide +kernel
theorem dX12_init_116 : decode cX12_init 116 = .ok (.aload_n 0, 1) := by decide +kernel
theorem dX12_init_117 : decode cX12_init 117 = .ok (.sipush 416, 3) := by decide +kernel
theorem dX12_init_120 : decode cX12_init 120 = .ok (.newarray .int, 2) := by decide +kernel
theorem dX12_init_122 : decode cX12_init 122 = .ok (.putfield 50, 3) := by decide +kernel
theorem dX12_init_125 : decode cX12_init 125 = .ok (.aload_n 0, 1) := by decide +kernel
theorem dX12_init_126 : decode cX12_init 126 = .ok (.sipush 416, 3) := by decide +kernel
theorem dX12_init_129 : decode cX12_init 129 = .ok (.newarray .long, 2) := by decide +kernel
theorem dX12_init_131 : decode cX12_init 131 = .ok (.putfield 53, 3) := by decide +kernel
theorem dX12_init_134 : decode cX12_init 134 = .ok (.aload_n 0, 1) := by decide +kernel
theorem dX12_init_135 : decode cX12_init 135 = .ok (.sipush 416, 3) := by decide +kernel
theorem dX12_init_138 : decode cX12_init 138 = .ok (.newarray .int, 2) := by decide +kernel
theorem dX12_init_140 : decode cX12_init 140 = .ok (.putfield 56, 3) := by decide +kernel
theorem dX12_init_143 : decode cX12_init 143 = .ok (.aload_n 0, 1) := by decide +kernel
theorem dX12_init_144 : decode cX12_init 144 = .ok (.sipush 416, 3) := by decide +kernel
theorem dX12_init_147 : decode cX12_init 147 = .ok (.newarray .long, 2) := by decide +kernel
theorem dX12_init_149 : decode cX12_init 149 = .ok (.putfield 59, 3) := by decide +kernel
theorem dX12_init_152 : decode cX12_init 152 = .ok (.aload_n 0, 1) := by decide +kernel
theorem dX12_init_153 : decode cX12_init 153 = .ok (.sipush 416, 3) := by decide +kernel
theorem dX12_init_156 : decode cX12_init 156 = .ok (.newarray .int, 2) := by decide +kernel
theorem dX12_init_158 : decode cX12_init 158 = .ok (.putfield 62, 3) := by decide +kernel
theorem dX12_init_161 : decode cX12_init 161 = .ok (.aload_n 0, 1) := by decide +kernel
theorem dX12_init_162 : decode cX12_init 162 = .ok (.bipush 104, 2) := by decide +kernel
theorem dX12_init_164 : decode cX12_init 164 = .ok (.newarray .int, 2) := by decide +kernel
theorem dX12_init_166 : decode cX12_init 166 = .ok (.putfield 65, 3) := by decide +kernel
theorem dX12_init_169 : decode cX12_init 169 = .ok (.aload_n 0, 1) := by decide +kernel
theorem dX12_init_170 : decode cX12_init 170 = .ok (.bipush 104, 2) := by decide +kernel
theorem dX12_init_172 : decode cX12_init 172 = .ok (.newarray .int, 2) := by decide +kernel
theorem dX12_init_174 : decode cX12_init 174 = .ok (.putfield 68, 3) := by decide +kernel
theorem dX12_init_177 : decode cX12_init 177 = .ok (.aload_n 0, 1) := by decide +kernel
theorem dX12_init_178 : decode cX12_init 178 = .ok (.bipush 104, 2) := by decide +kernel
theorem dX12_init_180 : decode cX12_init 180 = .ok (.newarray .int, 2) := by decide +kernel
theorem dX12_init_182 : decode cX12_init 182 = .ok (.putfield 71, 3) := by decide +kernel
theorem dX12_init_185 : decode cX12_init 185 = .ok (.aload_n 0, 1) := by decide +kernel
theorem dX12_init_186 : decode cX12_init 186 = .ok (.sipush 3200, 3) := by decide +kernel
theorem dX12_init_189 : decode cX12_init 189 = .ok (.newarray .long, 2) := by decide +kernel
theorem dX12_init_191 : decode cX12_init 191 = .ok (.putfield 74, 3) := by decide +kernel
theorem dX12_init_194 : decode cX12_init 194 = .ok (.aload_n 0, 1) := by decide +kernel
theorem dX12_init_195 : decode cX12_init 195 = .ok (.sipush 720, 3) := by decide +kernel
theorem dX12_init_198 : decode cX12_init 198 = .ok (.newarray .int, 2) := by decide +kernel
theorem dX12_init_200 : decode cX12_init 200 = .ok (.putfield 77, 3) := by decide +kernel
theorem dX12_init_203 : decode cX12_init 203 = .ok (.aload_n 0, 1) := by decide +kernel
theorem dX12_init_204 : decode cX12_init 204 = .ok (.sipush 720, 3) := by decide +kernel
theorem dX12_init_207 : decode cX12_init 207 = .ok (.newarray .int, 2) := by decide +kernel
theorem dX12_init_209 : decode cX12_init 209 = .ok (.putfield 80, 3) := by decide +kernel
theorem dX12_init_212 : decode cX12_init 212 = .ok (.aload_n 0, 1) := by decide +kernel
theorem dX12_init_213 : decode cX12_init 213 = .ok (.sipush 720, 3) := by decide +kernel
theorem dX12_init_216 : decode cX12_init 216 = .ok (.newarray .int, 2) := by decide +kernel
theorem dX12_init_218 : decode cX12_init 218 = .ok (.putfield 83, 3) := by decide +kernel
theorem dX12_init_221 : decode cX12_init 221 = .ok (.aload_n 0, 1) := by decide +kernel
theorem dX12_init_222 : decode cX12_init 222 = .ok (.sipush 720, 3) := by decide +kernel
theorem dX12_init_225 : decode cX12_init 225 = .ok (.newarray .int, 2) := by decide +kernel
theorem dX12_init_227 : decode cX12_init 227 = .ok (.putfield 86, 3) := by decide +kernel
theorem dX12_init_230 : decode cX12_init 230 = .ok (.aload_n 0, 1) := by decide +kernel
theorem dX12_init_231 : decode cX12_init 231 = .ok (.sipush 11520, 3) := by decide +kernel
theorem dX12_init_234 : decode cX12_init 234 = .ok (.newarray .int, 2) := by decide +kernel
theorem dX12_init_236 : decode cX12_init 236 = .ok (.putfield 89, 3) := by decide +kernel
theorem dX12_init_239 : decode cX12_init 239 = .ok (.aload_n 0, 1) := by decide +kernel
theorem dX12_init_240 : decode cX12_init 240 = .ok (.bipush 12, 2) := by decide +kernel
theorem dX12_init_242 : decode cX12_init 242 = .ok (.newarray .int, 2) := by decide +kernel
theorem dX12_init_244 : decode cX12_init 244 = .ok (.putfield 92, 3) := by decide +kernel
theorem dX12_init_247 : decode cX12_init 247 = .ok (.aload_n 0, 1) := by decide +kernel
theorem dX12_init_248 : decode cX12_init 248 = .ok (.sipush 720, 3) := by decide +kernel
theorem dX12_init_251 : decode cX12_init 251 = .ok (.newarray .int, 2) := by decide +kernel
theorem dX12_init_253 : decode cX12_init 253 = .ok (.putfield 95, 3) := by decide +kernel
theorem dX12_init_256 : decode cX12_init 256 = .ok (.aload_n 0, 1) := by decide +kernel
theorem dX12_init_257 : decode cX12_init 257 = .ok (.sipush 720, 3) := by decide +kernel
theorem dX12_init_260 : decode cX12_init 260 = .ok (.newarray .int, 2) := by decide +kernel
theorem dX12_init_262 : decode cX12_init 262 = .ok (.putfield 98, 3) := by decide +kernel
theorem dX12_init_265 : decode cX12_init 265 = .ok (.aload_n 0, 1) := by decide +kernel
theorem dX12_init_266 : decode cX12_init 266 = .ok (.sipush 720, 3) := by decide +kernel
theorem dX12_init_269 : decode cX12_init 269 = .ok (.newarray .int, 2) := by decide +kernel
theorem dX12_init_271 : decode cX12_init 271 = .ok (.putfield 101, 3) := by decide +kernel
theorem dX12_init_274 : decode cX12_init 274 = .ok (.aload_n 0, 1) := by decide +kernel
theorem dX12_init_275 : decode cX12_init 275 = .ok (.sipush 720, 3) := by decide +kernel
theorem dX12_init_278 : decode cX12_init 278 = .ok (.newarray .int, 2) := by decide +kernel
theorem dX12_init_280 : decode cX12_init 280 = .ok (.putfield 104, 3) := by decide +kernel
theorem dX12_init_283 : decode cX12_init 283 = .ok (.aload_n 0, 1) := by decide +kernel
theorem dX12_init_284 : decode cX12_init 284 = .ok (.sipush 11520, 3) := by decide +kernel
theorem dX12_init_287 : decode cX12_init 287 = .ok (.newarray .int, 2) := by decide +kernel
theorem dX12_init_289 : decode cX12_init 289 = .ok (.putfield 107, 3) := by decide +kernel
theorem dX12_init_292 : decode cX12_init 292 = .ok (.aload_n 0, 1) := by decide +kernel
theorem dX12_init_293 : decode cX12_init 293 = .ok (.iconst 4, 1) := by decide +kernel
theorem dX12_init_294 : decode cX12_init 294 = .ok (.newarray .boolean, 2) := by decide +kernel
theorem dX12_init_296 : decode cX12_init 296 = .ok (.putfield 110, 3) := by decide +kernel
theorem dX12_init_299 : decode cX12_init 299 = .ok (.aload_n 0, 1) := by decide +kernel
theorem dX12_init_300 : decode cX12_init 300 = .ok (.iconst 4, 1) := by decide +kernel
theorem dX12_init_301 : decode cX12_init 301 = .ok (.newarray .int, 2) := by decide +kernel
theorem dX12_init_303 : decode cX12_init 303 = .ok (.putfield 114, 3) := by decide +kernel
theorem dX12_init_306 : decode cX12_init 306 = .ok (.aload_n 0, 1) := by decide +kernel
theorem dX12_init_307 : decode cX12_init 307 = .ok (.iconst 4, 1) := by decide +kernel
theorem dX12_init_308 : decode cX12_init 308 = .ok (.newarray .int, 2) := by decide +kernel
theorem dX12_init_310 : decode cX12_init 310 = .ok (.putfield 117, 3) := by decide +kernel
theorem dX12_init_313 : decode cX12_init 313 = .ok (.aload_n 0, 1) := by decide +kernel
theorem dX12_init_314 : decode cX12_init 314 = .ok (.sipush 240, 3) := by decide +kernel
theorem dX12_init_317 : decode cX12_init 317 = .ok (.newarray .int, 2) := by decide +kernel
theorem dX12_init_319 : decode cX12_init 319 = .ok (.putfield 120, 3) := by decide +kernel
theorem dX12_init_322 : decode cX12_init 322 = .ok (.aload_n 0, 1) := by decide +kernel
theorem dX12_init_323 : decode cX12_init 323 = .ok (.sipush 240, 3) := by decide +kernel
theorem dX12_init_326 : decode cX12_init 326 = .ok (.newarray .int, 2) := by decide +kernel
theorem dX12_init_328 : decode cX12_init 328 = .ok (.putfield 123, 3) := by decide +kernel
theorem dX12_init_331 : decode cX12_init 331 = .ok (.aload_n 0, 1) := by decide +kernel
theorem dX12_init_332 : decode cX12_init 332 = .ok (.sipush 240, 3) := by decide +kernel
theorem dX12_init_335 : decode cX12_init 335 = .ok (.newarray .int, 2) := by decide +kernel
theorem dX12_init_337 : decode cX12_init 337 = .ok (.putfield 126, 3) := by decide +kernel
theorem dX12_init_340 : decode cX12_init 340 = .ok (.aload_n 0, 1) := by decide +kernel
theorem dX12_init_341 : decode cX12_init 341 = .ok (.sipush 240, 3) := by decide +kernel
theorem dX12_init_344 : decode cX12_init 344 = .ok (.newarray .int, 2) := by decide +kernel
theorem dX12_init_346 : decode cX12_init 346 = .ok (.putfield 129, 3) := by decide +kernel
theorem dX12_init_349 : decode cX12_init 349 = .ok (.aload_n 0, 1) := by decide +kernel
theorem dX12_init_350 : decode cX12_init 350 = .ok (.sipush 240, 3) := by decide +kernel
theorem dX12_init_353 : decode cX12_init 353 = .ok (.newarray .int, 2) := by decide +kernel
theorem dX12_init_355 : decode cX12_init 355 = .ok (.putfield 132, 3) := by decide +kernel
theorem dX12_init_358 : decode cX12_init 358 = .ok (.aload_n 0, 1) := by decide +kernel
theorem dX12_init_359 : decode cX12_init 359 = .ok (.sipush 3840, 3) := by decide +kernel
theorem dX12_init_362 : decode cX12_init 362 = .ok (.newarray .int, 2) := by decide +kernel
theorem dX12_init_364 : decode cX12_init 364 = .ok (.putfield 135, 3) := by decide +kernel
theorem dX12_init_367 : decode cX12_init 367 = .ok (.aload_n 0, 1) := by decide +kernel
theorem dX12_init_368 : decode cX12_init 368 = .ok (.sipush 3840, 3) := by decide +kernel
theorem dX12_init_371 : decode cX12_init 371 = .ok (.newarray .int, 2) := by decide +kernel
theorem dX12_init_373 : decode cX12_init 373 = .ok (.putfield 138, 3) := by decide +kernel
theorem dX12_init_376 : decode cX12_init 376 = .ok (.aload_n 0, 1) := by decide +kernel
theorem dX12_init_377 : decode cX12_init 377 = .ok (.iconst (-1), 1) := by decide +kernel
theorem dX12_init_378 : decode cX12_init 378 = .ok (.putfield 141, 3) := by decide +kernel
theorem dX12_init_381 : decode cX12_init 381 = .ok (.aload_n 0, 1) := by decide +kernel
theorem dX12_init_382 : decode cX12_init 382 = .ok (.bipush 64, 2) := by decide +kernel
theorem dX12_init_384 : decode cX12_init 384 = .ok (.newarray .int, 2) := by decide +kernel
theorem dX12_init_386 : decode cX12_init 386 = .ok (.putfield 145, 3) := by decide +kernel
theorem dX12_init_389 : decode cX12_init 389 = .ok (.aload_n 0, 1) := by decide +kernel
theorem dX12_init_390 : decode cX12_init 390 = .ok (.sipush 130, 3) := by decide +kernel
theorem dX12_init_393 : decode cX12_init 393 = .ok (.newarray .int, 2) := by decide +kernel
theorem dX12_init_395 : decode cX12_init 395 = .ok (.putfield 148, 3) := by decide +kernel
theorem dX12_init_398 : decode cX12_init 398 = .ok (.aload_n 0, 1) := by decide +kernel
theorem dX12_init_399 : decode cX12_init 399 = .ok (.bipush 60, 2) := by decide +kernel
theorem dX12_init_401 : decode cX12_init 401 = .ok (.newarray .int, 2) := by decide +kernel
theorem dX12_init_403 : decode cX12_init 403 = .ok (.putfield 151, 3) := by decide +kernel
theorem dX12_init_406 : decode cX12_init 406 = .ok (.aload_n 0, 1) := by decide +kernel
theorem dX12_init_407 : decode cX12_init 407 = .ok (.sipush 130, 3) := by decide +kernel
theorem dX12_init_410 : decode cX12_init 410 = .ok (.newarray .int, 2) := by decide +kernel
theorem dX12_init_412 : decode cX12_init 412 = .ok (.putfield 154, 3) := by decide +kernel
theorem dX12_init_415 : decode cX12_init 415 = .ok (.aload_n 0, 1) := by decide +kernel
theorem dX12_init_416 : decode cX12_init 416 = .ok (.iconst (-1), 1) := by decide +kernel
theorem dX12_init_417 : decode cX12_init 417 = .ok (.putfield 157, 3) := by decide +kernel
theorem dX12_init_420 : decode cX12_init 420 = .ok (.aload_n 0, 1) := by decide +kernel
theorem dX12_init_421 : decode cX12_init 421 = .ok (.iconst (-1), 1) := by decide +kernel
theorem dX12_init_422 : decode cX12_init 422 = .ok (.putfield 160, 3) := by decide +kernel
theorem dX12_init_425 : decode cX12_init 425 = .ok (.aload_n 0, 1) := by decide +kernel
theorem dX12_init_426 : decode cX12_init 426 = .ok (.iconst (-1), 1) := by decide +kernel
theorem dX12_init_427 : decode cX12_init 427 = .ok (.putfield 163, 3) := by decide +kernel
theorem dX12_init_430 : decode cX12_init 430 = .ok (.aload_n 0, 1) := by decide +kernel
theorem dX12_init_431 : decode cX12_init 431 = .ok (.iconst (-1), 1) := by decide +kernel
theorem dX12_init_432 : decode cX12_init 432 = .ok (.putfield 166, 3) := by decide +kernel
theorem dX12_init_435 : decode cX12_init 435 = .ok (.aload_n 0, 1) := by decide +kernel
theorem dX12_init_436 : decode cX12_init 436 = .ok (.sipush 200, 3) := by decide +kernel
theorem dX12_init_439 : decode cX12_init 439 = .ok (.newarray .int, 2) := by decide +kernel
theorem dX12_init_441 : decode cX12_init 441 = .ok (.putfield 169, 3) := by decide +kernel
theorem dX12_init_444 : decode cX12_init 444 = .ok (.aload_n 0, 1) := by decide +kernel
theorem dX12_init_445 : decode cX12_init 445 = .ok (.sipush 200, 3) := by decide +kernel
theorem dX12_init_448 : decode cX12_init 448 = .ok (.newarray .int, 2) := by decide +kernel
theorem dX12_init_450 : decode cX12_init 450 = .ok (.putfield 172, 3) := by decide +kernel
theorem dX12_init_453 : decode cX12_init 453 = .ok (.aload_n 0, 1) := by decide +kernel
theorem dX12_init_454 : decode cX12_init 454 = .ok (.sipush 200, 3) := by decide +kernel
theorem dX12_init_457 : decode cX12_init 457 = .ok (.newarray .int, 2) := by decide +kernel
theorem dX12_init_459 : decode cX12_init 459 = .ok (.putfield 175, 3) := by decide +kernel
theorem dX12_init_462 : decode cX12_init 462 = .ok (.aload_n 0, 1) := by decide +kernel
theorem dX12_init_463 : decode cX12_init 463 = .ok (.sipush 200, 3) := by decide +kernel
theorem dX12_init_466 : decode cX12_init 466 = .ok (.newarray .int, 2) := by decide +kernel
theorem dX12_init_468 : decode cX12_init 468 = .ok (.putfield 178, 3) := by decide +kernel
theorem dX12_init_471 : decode cX12_init 471 = .ok (.aload_n 0, 1) := by decide +kernel
theorem dX12_init_472 : decode cX12_init 472 = .ok (.bipush 60, 2) := by decide +kernel
theorem dX12_init_474 : decode cX12_init 474 = .ok (.newarray .int, 2) := by decide +kernel
theorem dX12_init_476 : decode cX12_init 476 = .ok (.putfield 181, 3) := by decide +kernel
theorem dX12_init_479 : decode cX12_init 479 = .ok (.aload_n 0, 1) := by decide +kernel
theorem dX12_init_480 : decode cX12_init 480 = .ok (.sipush 240, 3) := by decide +kernel
theorem dX12_init_483 : decode cX12_init 483 = .ok (.newarray .boolean, 2) := by decide +kernel
theorem dX12_init_485 : decode cX12_init 485 = .ok (.putfield 184, 3) := by decide +kernel
theorem dX12_init_488 : decode cX12_init 488 = .ok (.aload_n 0, 1) := by decide +kernel
theorem dX12_init_489 : decode cX12_init 489 = .ok (.sipush 3840, 3) := by decide +kernel
theorem dX12_init_492 : decode cX12_init 492 = .ok (.newarray .boolean, 2) := by decide +kernel
theorem dX12_init_494 : decode cX12_init 494 = .ok (.putfield 187, 3) := by decide +kernel
theorem dX12_init_497 : decode cX12_init 497 = .ok (.aload_n 0, 1) := by decide +kernel
theorem dX12_init_498 : decode cX12_init 498 = .ok (.bipush 16, 2) := by decide +kernel
theorem dX12_init_500 : decode cX12_init 500 = .ok (.newarray .int, 2) := by decide +kernel
theorem dX12_init_502 : decode cX12_init 502 = .ok (.putfield 190, 3) := by decide +kernel
theorem dX12_init_505 : decode cX12_init 505 = .ok (.aload_n 0, 1) := by decide +kernel
theorem dX12_init_506 : decode cX12_init 506 = .ok (.sipush 240, 3) := by decide +kernel
theorem dX12_init_509 : decode cX12_init 509 = .ok (.newarray .boolean, 2) := by decide +kernel
theorem dX12_init_511 : decode cX12_init 511 = .ok (.putfield 193, 3) := by decide +kernel
theorem dX12_init_514 : decode cX12_init 514 = .ok (.aload_n 0, 1) := by decide +kernel
theorem dX12_init_515 : decode cX12_init 515 = .ok (.sipush 3200, 3) := by decide +kernel
theorem dX12_init_518 : decode cX12_init 518 = .ok (.newarray .int, 2) := by decide +kernel
theorem dX12_init_520 : decode cX12_init 520 = .ok (.putfield 196, 3) := by decide +kernel
theorem dX12_init_523 : decode cX12_init 523 = .ok (.aload_n 0, 1) := by decide +kernel
theorem dX12_init_524 : decode cX12_init 524 = .ok (.sipush 3200, 3) := by decide +kernel
theorem dX12_init_527 : decode cX12_init 527 = .ok (.newarray .int, 2) := by decide +kernel
theorem dX12_init_529 : decode cX12_init 529 = .ok (.putfield 199, 3) := by decide +kernel
theorem dX12_init_532 : decode cX12_init 532 = .ok (.aload_n 0, 1) := by decide +kernel
theorem dX12_init_533 : decode cX12_init 533 = .ok (.sipush 3200, 3) := by decide +kernel
theorem dX12_init_536 : decode cX12_init 536 = .ok (.newarray .int, 2) := by decide +kernel
theorem dX12_init_538 : decode cX12_init 538 = .ok (.putfield 202, 3) := by decide +kernel
theorem dX12_init_541 : decode cX12_init 541 = .ok (.aload_n 0, 1) := by decide +kernel
theorem dX12_init_542 : decode cX12_init 542 = .ok (.sipush 3200, 3) := by decide +kernel
theorem dX12_init_545 : decode cX12_init 545 = .ok (.newarray .int, 2) := by decide +kernel
theorem dX12_init_547 : decode cX12_init 547 = .ok (.putfield 205, 3) := by decide +kernel
theorem dX12_init_550 : decode cX12_init 550 = .ok (.aload_n 0, 1) := by decide +kernel
theorem dX12_init_551 : decode cX12_init 551 = .ok (.sipush 3200, 3) := by decide +kernel
theorem dX12_init_554 : decode cX12_init 554 = .ok (.newarray .int, 2) := by decide +kernel
theorem dX12_init_556 : decode cX12_init 556 = .ok (.putfield 208, 3) := by decide +kernel
theorem dX12_init_559 : decode cX12_init 559 = .ok (.aload_n 0, 1) := by decide +kernel
theorem dX12_init_560 : decode cX12_init 560 = .ok (.sipush 3200, 3) := by decide +kernel
theorem dX12_init_563 : decode cX12_init 563 = .ok (.newarray .int, 2) := by decide +kernel
theorem dX12_init_565 : decode cX12_init 565 = .ok (.putfield 211, 3) := by decide +kernel
theorem dX12_init_568 : decode cX12_init 568 = .ok (.aload_n 0, 1) := by decide +kernel
theorem dX12_init_569 : decode cX12_init 569 = .ok (.bipush 60, 2) := by decide +kernel
theorem dX12_init_571 : decode cX12_init 571 = .ok (.newarray .int, 2) := by decide +kernel
theorem dX12_init_573 : decode cX12_init 573 = .ok (.putfield 214, 3) := by decide +kernel
theorem dX12_init_576 : decode cX12_init 576 = .ok (.aload_n 0, 1) := by decide +kernel
theorem dX12_init_577 : decode cX12_init 577 = .ok (.sipush 3200, 3) := by decide +kernel
theorem dX12_init_580 : decode cX12_init 580 = .ok (.newarray .int, 2) := by decide +kernel
theorem dX12_init_582 : decode cX12_init 582 = .ok (.putfield 217, 3) := by decide +kernel
theorem dX12_init_585 : decode cX12_init 585 = .ok (.aload_n 0, 1) := by decide +kernel
theorem dX12_init_586 : decode cX12_init 586 = .ok (.sipush 3200, 3) := by decide +kernel
theorem dX12_init_589 : decode cX12_init 589 = .ok (.newarray .int, 2) := by decide +kernel
theorem dX12_init_591 : decode cX12_init 591 = .ok (.putfield 220, 3) := by decide +kernel
theorem dX12_init_594 : decode cX12_init 594 = .ok (.return_, 1) := by decide +kernel
theorem dX12_feed_0 : decode cX12_feed 0 = .ok (.aload_n 0, 1) := by decide +kernel
theorem dX12_feed_1 : decode cX12_feed 1 = .ok (.getfield 223, 3) := by decide +kernel
theorem dX12_feed_4 : decode cX12_feed 4 = .ok (.bipush 20, 2) := by decide +kernel
theorem dX12_feed_6 : decode cX12_feed 6 = .ok (.iadd, 1) := by decide +kernel
theorem dX12_feed_7 : decode cX12_feed 7 = .ok (.sipush 3000, 3) := by decide +kernel
theorem dX12_feed_10 : decode cX12_feed 10 = .ok (.if_icmp .le 5, 3) := by decide +kernel
theorem dX12_feed_13 : decode cX12_feed 13 = .ok (.iconst (-1), 1) := by decide +kernel
theorem dX12_feed_14 : decode cX12_feed 14 = .ok (.ireturn, 1) := by decide +kernel
theorem dX12_feed_15 : decode cX12_feed 15 = .ok (.iconst 0, 1) := by decide +kernel
theorem dX12_feed_16 : decode cX12_feed 16 = .ok (.istore 6, 2) := by decide +kernel
theorem dX12_feed_18 : decode cX12_feed 18 = .ok (.iload 6, 2) := by decide +kernel
theorem dX12_feed_20 : decode cX12_feed 20 = .ok (.bipush 20, 2) := by decide +kernel
theorem dX12_feed_22 : decode cX12_feed 22 = .ok (.if_icmp .ge 86, 3) := by decide +kernel
theorem dX12_feed_25 : decode cX12_feed 25 = .ok (.iload 6, 2) := by decide +kernel
theorem dX12_feed_27 : decode cX12_feed 27 = .ok (.iconst 4, 1) := by decide +kernel
theorem dX12_feed_28 : decode cX12_feed 28 = .ok (.if_icmp .ge 7, 3) := by decide +kernel
theorem dX12_feed_31 : decode cX12_feed 31 = .ok (.iload_n 1, 1) := by decide +kernel
theorem dX12_feed_32 : decode cX12_feed 32 = .ok (.goto 39, 3) := by decide +kernel
theorem dX12_feed_35 : decode cX12_feed 35 = .ok (.iload 6, 2) := by decide +kernel
theorem dX12_feed_37 : decode cX12_feed 37 = .ok (.bipush 8, 2) := by decide +kernel
theorem dX12_feed_39 : decode cX12_feed 39 = .ok (.if_icmp .ge 7, 3) := by decide +kernel
theorem dX12_feed_42 : decode cX12_feed 42 = .ok (.iload_n 2, 1) := by decide +kernel
theorem dX12_feed_43 : decode cX12_feed 43 = .ok (.goto 28, 3) := by decide +kernel
theorem dX12_feed_46 : decode cX12_feed 46 = .ok (.iload 6, 2) := by decide +kernel
theorem dX12_feed_48 : decode cX12_feed 48 = .ok (.bipush 12, 2) := by decide +kernel
theorem dX12_feed_50 : decode cX12_feed 50 = .ok (.if_icmp .ge 7, 3) := by decide +kernel
theorem dX12_feed_53 : decode cX12_feed 53 = .ok (.iload_n 3, 1) := by decide +kernel
theorem dX12_feed_54 : decode cX12_feed 54 = .ok (.goto 17, 3) := by decide +kernel
theorem dX12_feed_57 : decode cX12_feed 57 = .ok (.iload 6, 2) := by decide +kernel
theorem dX12_feed_59 : decode cX12_feed 59 = .ok (.bipush 16, 2) := by decide +kernel
theorem dX12_feed_61 : decode cX12_feed 61 = .ok (.if_icmp .ge 8, 3) := by decide +kernel
theorem dX12_feed_64 : decode cX12_feed 64 = .ok (.iload 4, 2) := by decide +kernel
theorem dX12_feed_66 : decode cX12_feed 66 = .ok (.goto 5, 3) := by decide +kernel
theorem dX12_feed_69 : decode cX12_feed 69 = .ok (.iload 5, 2) := by decide +kernel
theorem dX12_feed_71 : decode cX12_feed 71 = .ok (.istore 7, 2) := by decide +kernel
theorem dX12_feed_73 : decode cX12_feed 73 = .ok (.aload_n 0, 1) := by decide +kernel
theorem dX12_feed_74 : decode cX12_feed 74 = .ok (.getfield 7, 3) := by decide +kernel
theorem dX12_feed_77 : decode cX12_feed 77 = .ok (.aload_n 0, 1) := by decide +kernel
theorem dX12_feed_78 : decode cX12_feed 78 = .ok (.getfield 223, 3) := by decide +kernel
theorem dX12_feed_81 : decode cX12_feed 81 = .ok (.iload 6, 2) := by decide +kernel
theorem dX12_feed_83 : decode cX12_feed 83 = .ok (.iadd, 1) := by decide +kernel
theorem dX12_feed_84 : decode cX12_feed 84 = .ok (.iload 7, 2) := by decide +kernel
theorem dX12_feed_86 : decode cX12_feed 86 = .ok (.bipush 24, 2) := by decide +kernel
theorem dX12_feed_88 : decode cX12_feed 88 = .ok (.bipush 8, 2) := by decide +kernel
theorem dX12_feed_90 : decode cX12_feed 90 = .ok (.iload 6, 2) := by decide +kernel
theorem dX12_feed_92 : decode cX12_feed 92 = .ok (.iconst 4, 1) := by decide +kernel
theorem dX12_feed_93 : decode cX12_feed 93 = .ok (.irem, 1) := by decide +kernel
theorem dX12_feed_94 : decode cX12_feed 94 = .ok (.imul, 1) := by decide +kernel
theorem dX12_feed_95 : decode cX12_feed 95 = .ok (.isub, 1) := by decide +kernel
theorem dX12_feed_96 : decode cX12_feed 96 = .ok (.ishr, 1) := by decide +kernel
theorem dX12_feed_97 : decode cX12_feed 97 = .ok (.sipush 255, 3) := by decide +kernel
theorem dX12_feed_100 : decode cX12_feed 100 = .ok (.iand, 1) := by decide +kernel
theorem dX12_feed_101 : decode cX12_feed 101 = .ok (.iastore, 1) := by decide +kernel
theorem dX12_feed_102 : decode cX12_feed 102 = .ok (.iinc 6 1, 3) := by decide +kernel
theorem dX12_feed_105 : decode cX12_feed 105 = .ok (.goto (-87), 3) := by decide +kernel
theorem dX12_feed_108 : decode cX12_feed 108 = .ok (.aload_n 0, 1) := by decide +kernel
theorem dX12_feed_109 : decode cX12_feed 109 = .ok (.dup, 1) := by decide +kernel
theorem dX12_feed_110 : decode cX12_feed 110 = .ok (.getfield 223, 3) := by decide +kernel
theorem dX12_feed_113 : decode cX12_feed 113 = .ok (.bipush 20, 2) := by decide +kernel
theorem dX12_feed_115 : decode cX12_feed 115 = .ok (.iadd, 1) := by decide +kernel
theorem dX12_feed_116 : decode cX12_feed 116 = .ok (.putfield 223, 3) := by decide +kernel
theorem dX12_feed_119 : decode cX12_feed 119 = .ok (.aload_n 0, 1) := by decide +kernel
theorem dX12_feed_120 : decode cX12_feed 120 = .ok (.getfield 223, 3) := by decide +kernel
theorem dX12_feed_123 : decode cX12_feed 123 = .ok (.ireturn, 1) := by decide +kernel
theorem dX12_end_0 : decode cX12_end 0 = .ok (.iload_n 1, 1) := by decide +kernel
theorem dX12_end_1 : decode cX12_end 1 = .ok (.ifCond .lt 11, 3) := by decide +kernel
theorem dX12_end_4 : decode cX12_end 4 = .ok (.iload_n 1, 1) := by decide +kernel
theorem dX12_end_5 : decode cX12_end 5 = .ok (.aload_n 0, 1) := by decide +kernel
theorem dX12_end_6 : decode cX12_end 6 = .ok (.getfield 223, 3) := by decide +kernel
theorem dX12_end_9 : decode cX12_end 9 = .ok (.if_icmp .le 5, 3) := by decide +kernel
theorem dX12_end_12 : decode cX12_end 12 = .ok (.iconst (-1), 1) := by decide +kernel
theorem dX12_end_13 : decode cX12_end 13 = .ok (.ireturn, 1) := by decide +kernel
theorem dX12_end_14 : decode cX12_end 14 = .ok (.aload_n 0, 1) := by decide +kernel
theorem dX12_end_15 : decode cX12_end 15 = .ok (.iload_n 1, 1) := by decide +kernel
theorem dX12_end_16 : decode cX12_end 16 = .ok (.putfield 223, 3) := by decide +kernel
theorem dX12_end_19 : decode cX12_end 19 = .ok (.iload_n 1, 1) := by decide +kernel
theorem dX12_end_20 : decode cX12_end 20 = .ok (.ireturn, 1) := by decide +kernel
theorem dX12_letterOf_0 : decode cX12_letterOf 0 = .ok (.iload_n 0, 1) := by decide +kernel
theorem dX12_letterOf_1 : decode cX12_letterOf 1 = .ok (.bipush 97, 2) := by decide +kernel
theorem dX12_letterOf_3 : decode cX12_letterOf 3 = .ok (.if_icmp .lt 16, 3) := by decide +kernel
theorem dX12_letterOf_6 : decode cX12_letterOf 6 = .ok (.iload_n 0, 1) := by decide +kernel
theorem dX12_letterOf_7 : decode cX12_letterOf 7 = .ok (.bipush 122, 2) := by decide +kernel
theorem dX12_letterOf_9 : decode cX12_letterOf 9 = .ok (.if_icmp .gt 10, 3) := by decide +kernel
theorem dX12_letterOf_12 : decode cX12_letterOf 12 = .ok (.iload_n 0, 1) := by decide +kernel
theorem dX12_letterOf_13 : decode cX12_letterOf 13 = .ok (.bipush 96, 2) := by decide +kernel
theorem dX12_letterOf_15 : decode cX12_letterOf 15 = .ok (.isub, 1) := by decide +kernel
theorem dX12_letterOf_16 : decode cX12_letterOf 16 = .ok (.goto 48, 3) := by decide +kernel
theorem dX12_letterOf_19 : decode cX12_letterOf 19 = .ok (.iload_n 0, 1) := by decide +kernel
theorem dX12_letterOf_20 : decode cX12_letterOf 20 = .ok (.bipush 65, 2) := by decide +kernel
theorem dX12_letterOf_22 : decode cX12_letterOf 22 = .ok (.if_icmp .lt 19, 3) := by decide +kernel
theorem dX12_letterOf_25 : decode cX12_letterOf 25 = .ok (.iload_n 0, 1) := by decide +kernel
theorem dX12_letterOf_26 : decode cX12_letterOf 26 = .ok (.bipush 90, 2) := by decide +kernel
theorem dX12_letterOf_28 : decode cX12_letterOf 28 = .ok (.if_icmp .gt 13, 3) := by decide +kernel
theorem dX12_letterOf_31 : decode cX12_letterOf 31 = .ok (.iload_n 0, 1) := by decide +kernel
theorem dX12_letterOf_32 : decode cX12_letterOf 32 = .ok (.bipush 64, 2) := by decide +kernel
theorem dX12_letterOf_34 : decode cX12_letterOf 34 = .ok (.isub, 1) := by decide +kernel
theorem dX12_letterOf_35 : decode cX12_letterOf 35 = .ok (.bipush 26, 2) := by decide +kernel
theorem dX12_letterOf_37 : decode cX12_letterOf 37 = .ok (.iadd, 1) := by decide +kernel
theorem dX12_letterOf_38 : decode cX12_letterOf 38 = .ok (.goto 26, 3) := by decide +kernel
theorem dX12_letterOf_41 : decode cX12_letterOf 41 = .ok (.iload_n 0, 1) := by decide +kernel
theorem dX12_letterOf_42 : decode cX12_letterOf 42 = .ok (.bipush 48, 2) := by decide +kernel
theorem dX12_letterOf_44 : decode cX12_letterOf 44 = .ok (.if_icmp .lt 19, 3) := by decide +kernel
theorem dX12_letterOf_47 : decode cX12_letterOf 47 = .ok (.iload_n 0, 1) := by decide +kernel
theorem dX12_letterOf_48 : decode cX12_letterOf 48 = .ok (.bipush 57, 2) := by decide +kernel
theorem dX12_letterOf_50 : decode cX12_letterOf 50 = .ok (.if_icmp .gt 13, 3) := by decide +kernel
theorem dX12_letterOf_53 : decode cX12_letterOf 53 = .ok (.iload_n 0, 1) := by decide +kernel
theorem dX12_letterOf_54 : decode cX12_letterOf 54 = .ok (.bipush 47, 2) := by decide +kernel
theorem dX12_letterOf_56 : decode cX12_letterOf 56 = .ok (.isub, 1) := by decide +kernel
theorem dX12_letterOf_57 : decode cX12_letterOf 57 = .ok (.bipush 52, 2) := by decide +kernel
theorem dX12_letterOf_59 : decode cX12_letterOf 59 = .ok (.iadd, 1) := by decide +kernel
theorem dX12_letterOf_60 : decode cX12_letterOf 60 = .ok (.goto 4, 3) := by decide +kernel
theorem dX12_letterOf_63 : decode cX12_letterOf 63 = .ok (.iconst 0, 1) := by decide +kernel
theorem dX12_letterOf_64 : decode cX12_letterOf 64 = .ok (.ireturn, 1) := by decide +kernel
theorem dX12_see_0 : decode cX12_see 0 = .ok (.iload_n 1, 1) := by decide +kernel
theorem dX12_see_1 : decode cX12_see 1 = .ok (.aload_n 0, 1) := by decide +kernel
theorem dX12_see_2 : decode cX12_see 2 = .ok (.getfield 223, 3) := by decide +kernel
theorem dX12_see_5 : decode cX12_see 5 = .ok (.if_icmp .ge 12, 3) := by decide +kernel
theorem dX12_see_8 : decode cX12_see 8 = .ok (.aload_n 0, 1) := by decide +kernel
theorem dX12_see_9 : decode cX12_see 9 = .ok (.getfield 7, 3) := by decide +kernel
theorem dX12_see_12 : decode cX12_see 12 = .ok (.iload_n 1, 1) := by decide +kernel
theorem dX12_see_13 : decode cX12_see 13 = .ok (.iaload, 1) := by decide +kernel
theorem dX12_see_14 : decode cX12_see 14 = .ok (.goto 4, 3) := by decide +kernel
theorem dX12_see_17 : decode cX12_see 17 = .ok (.iconst (-1), 1) := by decide +kernel
theorem dX12_see_18 : decode cX12_see 18 = .ok (.ireturn, 1) := by decide +kernel
theorem dX12_isBlank_0 : decode cX12_isBlank 0 = .ok (.iload_n 0, 1) := by decide +kernel
theorem dX12_isBlank_1 : decode cX12_isBlank 1 = .ok (.bipush 9, 2) := by decide +kernel
theorem dX12_isBlank_3 : decode cX12_isBlank 3 = .ok (.if_icmp .eq 21, 3) := by decide +kernel
theorem dX12_isBlank_6 : decode cX12_isBlank 6 = .ok (.iload_n 0, 1) := by decide +kernel
theorem dX12_isBlank_7 : decode cX12_isBlank 7 = .ok (.bipush 10, 2) := by decide +kernel
theorem dX12_isBlank_9 : decode cX12_isBlank 9 = .ok (.if_icmp .eq 15, 3) := by decide +kernel
theorem dX12_isBlank_12 : decode cX12_isBlank 12 = .ok (.iload_n 0, 1) := by decide +kernel
theorem dX12_isBlank_13 : decode cX12_isBlank 13 = .ok (.bipush 13, 2) := by decide +kernel
theorem dX12_isBlank_15 : decode cX12_isBlank 15 = .ok (.if_icmp .eq 9, 3) := by decide +kernel
theorem dX12_isBlank_18 : decode cX12_isBlank 18 = .ok (.iload_n 0, 1) := by decide +kernel
theorem dX12_isBlank_19 : decode cX12_isBlank 19 = .ok (.bipush 32, 2) := by decide +kernel
theorem dX12_isBlank_21 : decode cX12_isBlank 21 = .ok (.if_icmp .ne 7, 3) := by decide +kernel
theorem dX12_isBlank_24 : decode cX12_isBlank 24 = .ok (.iconst 1, 1) := by decide +kernel
theorem dX12_isBlank_25 : decode cX12_isBlank 25 = .ok (.goto 4, 3) := by decide +kernel
theorem dX12_isBlank_28 : decode cX12_isBlank 28 = .ok (.iconst 0, 1) := by decide +kernel
theorem dX12_isBlank_29 : decode cX12_isBlank 29 = .ok (.ireturn, 1) := by decide +kernel
theorem dX12_isSign_0 : decode cX12_isSign 0 = .ok (.iload_n 0, 1) := by decide +kernel
theorem dX12_isSign_1 : decode cX12_isSign 1 = .ok (.bipush 123, 2) := by decide +kernel
theorem dX12_isSign_3 : decode cX12_isSign 3 = .ok (.if_icmp .eq 75, 3) := by decide +kernel
theorem dX12_isSign_6 : decode cX12_isSign 6 = .ok (.iload_n 0, 1) := by decide +kernel
theorem dX12_isSign_7 : decode cX12_isSign 7 = .ok (.bipush 125, 2) := by decide +kernel
theorem dX12_isSign_9 : decode cX12_isSign 9 = .ok (.if_icmp .eq 69, 3) := by decide +kernel
theorem dX12_isSign_12 : decode cX12_isSign 12 = .ok (.iload_n 0, 1) := by decide +kernel
theorem dX12_isSign_13 : decode cX12_isSign 13 = .ok (.bipush 40, 2) := by decide +kernel
theorem dX12_isSign_15 : decode cX12_isSign 15 = .ok (.if_icmp .eq 63, 3) := by decide +kernel
theorem dX12_isSign_18 : decode cX12_isSign 18 = .ok (.iload_n 0, 1) := by decide +kernel
theorem dX12_isSign_19 : decode cX12_isSign 19 = .ok (.bipush 41, 2) := by decide +kernel
theorem dX12_isSign_21 : decode cX12_isSign 21 = .ok (.if_icmp .eq 57, 3) := by decide +kernel
theorem dX12_isSign_24 : decode cX12_isSign 24 = .ok (.iload_n 0, 1) := by decide +kernel
theorem dX12_isSign_25 : decode cX12_isSign 25 = .ok (.bipush 58, 2) := by decide +kernel
theorem dX12_isSign_27 : decode cX12_isSign 27 = .ok (.if_icmp .eq 51, 3) := by decide +kernel
theorem dX12_isSign_30 : decode cX12_isSign 30 = .ok (.iload_n 0, 1) := by decide +kernel
theorem dX12_isSign_31 : decode cX12_isSign 31 = .ok (.bipush 59, 2) := by decide +kernel
theorem dX12_isSign_33 : decode cX12_isSign 33 = .ok (.if_icmp .eq 45, 3) := by decide +kernel
theorem dX12_isSign_36 : decode cX12_isSign 36 = .ok (.iload_n 0, 1) := by decide +kernel
theorem dX12_isSign_37 : decode cX12_isSign 37 = .ok (.bipush 44, 2) := by decide +kernel
theorem dX12_isSign_39 : decode cX12_isSign 39 = .ok (.if_icmp .eq 39, 3) := by decide +kernel
theorem dX12_isSign_42 : decode cX12_isSign 42 = .ok (.iload_n 0, 1) := by decide +kernel
theorem dX12_isSign_43 : decode cX12_isSign 43 = .ok (.bipush 46, 2) := by decide +kernel
theorem dX12_isSign_45 : decode cX12_isSign 45 = .ok (.if_icmp .eq 33, 3) := by decide +kernel
theorem dX12_isSign_48 : decode cX12_isSign 48 = .ok (.iload_n 0, 1) := by decide +kernel
theorem dX12_isSign_49 : decode cX12_isSign 49 = .ok (.bipush 61, 2) := by decide +kernel
theorem dX12_isSign_51 : decode cX12_isSign 51 = .ok (.if_icmp .eq 27, 3) := by decide +kernel
theorem dX12_isSign_54 : decode cX12_isSign 54 = .ok (.iload_n 0, 1) := by decide +kernel
theorem dX12_isSign_55 : decode cX12_isSign 55 = .ok (.bipush 60, 2) := by decide +kernel
theorem dX12_isSign_57 : decode cX12_isSign 57 = .ok (.if_icmp .eq 21, 3) := by decide +kernel
theorem dX12_isSign_60 : decode cX12_isSign 60 = .ok (.iload_n 0, 1) := by decide +kernel
theorem dX12_isSign_61 : decode cX12_isSign 61 = .ok (.bipush 62, 2) := by decide +kernel
theorem dX12_isSign_63 : decode cX12_isSign 63 = .ok (.if_icmp .eq 15, 3) := by decide +kernel
theorem dX12_isSign_66 : decode cX12_isSign 66 = .ok (.iload_n 0, 1) := by decide +kernel
theorem dX12_isSign_67 : decode cX12_isSign 67 = .ok (.bipush 43, 2) := by decide +kernel
theorem dX12_isSign_69 : decode cX12_isSign 69 = .ok (.if_icmp .eq 9, 3) := by decide +kernel
theorem dX12_isSign_72 : decode cX12_isSign 72 = .ok (.iload_n 0, 1) := by decide +kernel
theorem dX12_isSign_73 : decode cX12_isSign 73 = .ok (.bipush 45, 2) := by decide +kernel
theorem dX12_isSign_75 : decode cX12_isSign 75 = .ok (.if_icmp .ne 7, 3) := by decide +kernel
theorem dX12_isSign_78 : decode cX12_isSign 78 = .ok (.iconst 1, 1) := by decide +kernel
theorem dX12_isSign_79 : decode cX12_isSign 79 = .ok (.goto 4, 3) := by decide +kernel
theorem dX12_isSign_82 : decode cX12_isSign 82 = .ok (.iconst 0, 1) := by decide +kernel
theorem dX12_isSign_83 : decode cX12_isSign 83 = .ok (.ireturn, 1) := by decide +kernel
theorem dX12_advance_0 : decode cX12_advance 0 = .ok (.aload_n 0, 1) := by decide +kernel
theorem dX12_advance_1 : decode cX12_advance 1 = .ok (.aload_n 0, 1) := by decide +kernel
theorem dX12_advance_2 : decode cX12_advance 2 = .ok (.getfield 226, 3) := by decide +kernel
theorem dX12_advance_5 : decode cX12_advance 5 = .ok (.invokevirtual 229, 3) := by decide +kernel
theorem dX12_advance_8 : decode cX12_advance 8 = .ok (.invokestatic 233, 3) := by decide +kernel
theorem dX12_advance_11 : decode cX12_advance 11 = .ok (.ifCond .eq 16, 3) := by decide +kernel
theorem dX12_advance_14 : decode cX12_advance 14 = .ok (.aload_n 0, 1) := by decide +kernel
theorem dX12_advance_15 : decode cX12_advance 15 = .ok (.dup, 1) := by decide +kernel
theorem dX12_advance_16 : decode cX12_advance 16 = .ok (.getfield 226, 3) := by decide +kernel
theorem dX12_advance_19 : decode cX12_advance 19 = .ok (.iconst 1, 1) := by decide +kernel
theorem dX12_advance_20 : decode cX12_advance 20 = .ok (.iadd, 1) := by decide +kernel
theorem dX12_advance_21 : decode cX12_advance 21 = .ok (.putfield 226, 3) := by decide +kernel
theorem dX12_advance_24 : decode cX12_advance 24 = .ok (.goto (-24), 3) := by decide +kernel
theorem dX12_advance_27 : decode cX12_advance 27 = .ok (.aload_n 0, 1) := by decide +kernel
theorem dX12_advance_28 : decode cX12_advance 28 = .ok (.aload_n 0, 1) := by decide +kernel
theorem dX12_advance_29 : decode cX12_advance 29 = .ok (.getfield 226, 3) := by decide +kernel
theorem dX12_advance_32 : decode cX12_advance 32 = .ok (.putfield 237, 3) := by decide +kernel
theorem dX12_advance_35 : decode cX12_advance 35 = .ok (.aload_n 0, 1) := by decide +kernel
theorem dX12_advance_36 : decode cX12_advance 36 = .ok (.aload_n 0, 1) := by decide +kernel
theorem dX12_advance_37 : decode cX12_advance 37 = .ok (.getfield 237, 3) := by decide +kernel
theorem dX12_advance_40 : decode cX12_advance 40 = .ok (.invokevirtual 229, 3) := by decide +kernel
theorem dX12_advance_43 : decode cX12_advance 43 = .ok (.istore_n 1, 1) := by decide +kernel
theorem dX12_advance_44 : decode cX12_advance 44 = .ok (.iload_n 1, 1) := by decide +kernel
theorem dX12_advance_45 : decode cX12_advance 45 = .ok (.ifCond .ge 7, 3) := by decide +kernel
theorem dX12_advance_48 : decode cX12_advance 48 = .ok (.iconst 0, 1) := by decide +kernel
theorem dX12_advance_49 : decode cX12_advance 49 = .ok (.goto 7, 3) := by decide +kernel
theorem dX12_advance_52 : decode cX12_advance 52 = .ok (.iload_n 1, 1) := by decide +kernel
theorem dX12_advance_53 : decode cX12_advance 53 = .ok (.invokestatic 240, 3) := by decide +kernel
theorem dX12_advance_56 : decode cX12_advance 56 = .ok (.istore_n 2, 1) := by decide +kernel
theorem dX12_advance_57 : decode cX12_advance 57 = .ok (.iconst 0, 1) := by decide +kernel
theorem dX12_advance_58 : decode cX12_advance 58 = .ok (.istore_n 3, 1) := by decide +kernel
theorem dX12_advance_59 : decode cX12_advance 59 = .ok (.iload_n 1, 1) := by decide +kernel
theorem dX12_advance_60 : decode cX12_advance 60 = .ok (.ifCond .ge 11, 3) := by decide +kernel
theorem dX12_advance_63 : decode cX12_advance 63 = .ok (.aload_n 0, 1) := by decide +kernel
theorem dX12_advance_64 : decode cX12_advance 64 = .ok (.iconst 0, 1) := by decide +kernel
theorem dX12_advance_65 : decode cX12_advance 65 = .ok (.putfield 243, 3) := by decide +kernel
theorem dX12_advance_68 : decode cX12_advance 68 = .ok (.goto 239, 3) := by decide +kernel
theorem dX12_advance_71 : decode cX12_advance 71 = .ok (.iload_n 2, 1) := by decide +kernel
theorem dX12_advance_72 : decode cX12_advance 72 = .ok (.ifCond .le 104, 3) := by decide +kernel
theorem dX12_advance_75 : decode cX12_advance 75 = .ok (.iload_n 2, 1) := by decide +kernel
theorem dX12_advance_76 : decode cX12_advance 76 = .ok (.bipush 53, 2) := by decide +kernel
theorem dX12_advance_78 : decode cX12_advance 78 = .ok (.if_icmp .ge 98, 3) := by decide +kernel
theorem dX12_advance_81 : decode cX12_advance 81 = .ok (.aload_n 0, 1) := by decide +kernel
theorem dX12_advance_82 : decode cX12_advance 82 = .ok (.lconst 0, 1) := by decide +kernel
theorem dX12_advance_83 : decode cX12_advance 83 = .ok (.putfield 246, 3) := by decide +kernel
theorem dX12_advance_86 : decode cX12_advance 86 = .ok (.aload_n 0, 1) := by decide +kernel
theorem dX12_advance_87 : decode cX12_advance 87 = .ok (.aload_n 0, 1) := by decide +kernel
theorem dX12_advance_88 : decode cX12_advance 88 = .ok (.getfield 226, 3) := by decide +kernel
theorem dX12_advance_91 : decode cX12_advance 91 = .ok (.invokevirtual 229, 3) := by decide +kernel
theorem dX12_advance_94 : decode cX12_advance 94 = .ok (.ifCond .lt 64, 3) := by decide +kernel
theorem dX12_advance_97 : decode cX12_advance 97 = .ok (.aload_n 0, 1) := by decide +kernel
theorem dX12_advance_98 : decode cX12_advance 98 = .ok (.aload_n 0, 1) := by decide +kernel
theorem dX12_advance_99 : decode cX12_advance 99 = .ok (.getfield 226, 3) := by decide +kernel
theorem dX12_advance_102 : decode cX12_advance 102 = .ok (.invokevirtual 229, 3) := by decide +kernel
theorem dX12_advance_105 : decode cX12_advance 105 = .ok (.invokestatic 240, 3) := by decide +kernel
theorem dX12_advance_108 : decode cX12_advance 108 = .ok (.ifCond .le 50, 3) := by decide +kernel
theorem dX12_advance_111 : decode cX12_advance 111 = .ok (.iload_n 3, 1) := by decide +kernel
theorem dX12_advance_112 : decode cX12_advance 112 = .ok (.bipush 8, 2) := by decide +kernel
theorem dX12_advance_114 : decode cX12_advance 114 = .ok (.if_icmp .ge 28, 3) := by decide +kernel
theorem dX12_advance_117 : decode cX12_advance 117 = .ok (.aload_n 0, 1) := by decide +kernel
theorem dX12_advance_118 : decode cX12_advance 118 = .ok (.aload_n 0, 1) := by decide +kernel
theorem dX12_advance_119 : decode cX12_advance 119 = .ok (.getfield 246, 3) := by decide +kernel
theorem dX12_advance_122 : decode cX12_advance 122 = .ok (.ldc2_w 250, 3) := by decide +kernel
theorem dX12_advance_125 : decode cX12_advance 125 = .ok (.lmul, 1) := by decide +kernel
theorem dX12_advance_126 : decode cX12_advance 126 = .ok (.aload_n 0, 1) := by decide +kernel
theorem dX12_advance_127 : decode cX12_advance 127 = .ok (.aload_n 0, 1) := by decide +kernel
theorem dX12_advance_128 : decode cX12_advance 128 = .ok (.getfield 226, 3) := by decide +kernel
theorem dX12_advance_131 : decode cX12_advance 131 = .ok (.invokevirtual 229, 3) := by decide +kernel
theorem dX12_advance_134 : decode cX12_advance 134 = .ok (.invokestatic 240, 3) := by decide +kernel
theorem dX12_advance_137 : decode cX12_advance 137 = .ok (.i2l, 1) := by decide +kernel
theorem dX12_advance_138 : decode cX12_advance 138 = .ok (.ladd, 1) := by decide +kernel
theorem dX12_advance_139 : decode cX12_advance 139 = .ok (.putfield 246, 3) := by decide +kernel
theorem dX12_advance_142 : decode cX12_advance 142 = .ok (.iinc 3 1, 3) := by decide +kernel
theorem dX12_advance_145 : decode cX12_advance 145 = .ok (.aload_n 0, 1) := by decide +kernel
theorem dX12_advance_146 : decode cX12_advance 146 = .ok (.dup, 1) := by decide +kernel
theorem dX12_advance_147 : decode cX12_advance 147 = .ok (.getfield 226, 3) := by decide +kernel
theorem dX12_advance_150 : decode cX12_advance 150 = .ok (.iconst 1, 1) := by decide +kernel
theorem dX12_advance_151 : decode cX12_advance 151 = .ok (.iadd, 1) := by decide +kernel
theorem dX12_advance_152 : decode cX12_advance 152 = .ok (.putfield 226, 3) := by decide +kernel
theorem dX12_advance_155 : decode cX12_advance 155 = .ok (.goto (-69), 3) := by decide +kernel
theorem dX12_advance_158 : decode cX12_advance 158 = .ok (.aload_n 0, 1) := by decide +kernel
theorem dX12_advance_159 : decode cX12_advance 159 = .ok (.iload_n 3, 1) := by decide +kernel
theorem dX12_advance_160 : decode cX12_advance 160 = .ok (.bipush 8, 2) := by decide +kernel
theorem dX12_advance_162 : decode cX12_advance 162 = .ok (.if_icmp .le 7, 3) := by decide +kernel
theorem dX12_advance_165 : decode cX12_advance 165 = .ok (.iconst 1, 1) := by decide +kernel
theorem dX12_advance_166 : decode cX12_advance 166 = .ok (.goto 4, 3) := by decide +kernel
theorem dX12_advance_169 : decode cX12_advance 169 = .ok (.iconst 2, 1) := by decide +kernel
theorem dX12_advance_170 : decode cX12_advance 170 = .ok (.putfield 243, 3) := by decide +kernel
theorem dX12_advance_173 : decode cX12_advance 173 = .ok (.goto 134, 3) := by decide +kernel
theorem dX12_advance_176 : decode cX12_advance 176 = .ok (.iload_n 2, 1) := by decide +kernel
theorem dX12_advance_177 : decode cX12_advance 177 = .ok (.bipush 52, 2) := by decide +kernel
theorem dX12_advance_179 : decode cX12_advance 179 = .ok (.if_icmp .le 97, 3) := by decide +kernel
theorem dX12_advance_182 : decode cX12_advance 182 = .ok (.aload_n 0, 1) := by decide +kernel
theorem dX12_advance_183 : decode cX12_advance 183 = .ok (.iconst 0, 1) := by decide +kernel
theorem dX12_advance_184 : decode cX12_advance 184 = .ok (.putfield 252, 3) := by decide +kernel
theorem dX12_advance_187 : decode cX12_advance 187 = .ok (.aload_n 0, 1) := by decide +kernel
theorem dX12_advance_188 : decode cX12_advance 188 = .ok (.aload_n 0, 1) := by decide +kernel
theorem dX12_advance_189 : decode cX12_advance 189 = .ok (.getfield 226, 3) := by decide +kernel
theorem dX12_advance_192 : decode cX12_advance 192 = .ok (.invokevirtual 229, 3) := by decide +kernel
theorem dX12_advance_195 : decode cX12_advance 195 = .ok (.bipush 48, 2) := by decide +kernel
theorem dX12_advance_197 : decode cX12_advance 197 = .ok (.if_icmp .lt 61, 3) := by decide +kernel
theorem dX12_advance_200 : decode cX12_advance 200 = .ok (.aload_n 0, 1) := by decide +kernel
theorem dX12_advance_201 : decode cX12_advance 201 = .ok (.aload_n 0, 1) := by decide +kernel
theorem dX12_advance_202 : decode cX12_advance 202 = .ok (.getfield 226, 3) := by decide +kernel
theorem dX12_advance_205 : decode cX12_advance 205 = .ok (.invokevirtual 229, 3) := by decide +kernel
theorem dX12_advance_208 : decode cX12_advance 208 = .ok (.bipush 57, 2) := by decide +kernel
theorem dX12_advance_210 : decode cX12_advance 210 = .ok (.if_icmp .gt 48, 3) := by decide +kernel
theorem dX12_advance_213 : decode cX12_advance 213 = .ok (.iload_n 3, 1) := by decide +kernel
theorem dX12_advance_214 : decode cX12_advance 214 = .ok (.bipush 6, 2) := by decide +kernel
theorem dX12_advance_216 : decode cX12_advance 216 = .ok (.if_icmp .ge 26, 3) := by decide +kernel
theorem dX12_advance_219 : decode cX12_advance 219 = .ok (.aload_n 0, 1) := by decide +kernel
theorem dX12_advance_220 : decode cX12_advance 220 = .ok (.bipush 10, 2) := by decide +kernel
theorem dX12_advance_222 : decode cX12_advance 222 = .ok (.aload_n 0, 1) := by decide +kernel
theorem dX12_advance_223 : decode cX12_advance 223 = .ok (.getfield 252, 3) := by decide +kernel
theorem dX12_advance_226 : decode cX12_advance 226 = .ok (.imul, 1) := by decide +kernel
theorem dX12_advance_227 : decode cX12_advance 227 = .ok (.aload_n 0, 1) := by decide +kernel
theorem dX12_advance_228 : decode cX12_advance 228 = .ok (.aload_n 0, 1) := by decide +kernel
theorem dX12_advance_229 : decode cX12_advance 229 = .ok (.getfield 226, 3) := by decide +kernel
theorem dX12_advance_232 : decode cX12_advance 232 = .ok (.invokevirtual 229, 3) := by decide +kernel
theorem dX12_advance_235 : decode cX12_advance 235 = .ok (.iadd, 1) := by decide +kernel
theorem dX12_advance_236 : decode cX12_advance 236 = .ok (.bipush 48, 2) := by decide +kernel
theorem dX12_advance_238 : decode cX12_advance 238 = .ok (.isub, 1) := by decide +kernel
theorem dX12_advance_239 : decode cX12_advance 239 = .ok (.putfield 252, 3) := by decide +kernel
theorem dX12_advance_242 : decode cX12_advance 242 = .ok (.iinc 3 1, 3) := by decide +kernel
theorem dX12_advance_245 : decode cX12_advance 245 = .ok (.aload_n 0, 1) := by decide +kernel
theorem dX12_advance_246 : decode cX12_advance 246 = .ok (.dup, 1) := by decide +kernel
theorem dX12_advance_247 : decode cX12_advance 247 = .ok (.getfield 226, 3) := by decide +kernel
theorem dX12_advance_250 : decode cX12_advance 250 = .ok (.iconst 1, 1) := by decide +kernel
theorem dX12_advance_251 : decode cX12_advance 251 = .ok (.iadd, 1) := by decide +kernel
theorem dX12_advance_252 : decode cX12_advance 252 = .ok (.putfield 226, 3) := by decide +kernel
theorem dX12_advance_255 : decode cX12_advance 255 = .ok (.goto (-68), 3) := by decide +kernel
theorem dX12_advance_258 : decode cX12_advance 258 = .ok (.aload_n 0, 1) := by decide +kernel
theorem dX12_advance_259 : decode cX12_advance 259 = .ok (.iload_n 3, 1) := by decide +kernel
theorem dX12_advance_260 : decode cX12_advance 260 = .ok (.bipush 6, 2) := by decide +kernel
theorem dX12_advance_262 : decode cX12_advance 262 = .ok (.if_icmp .le 7, 3) := by decide +kernel
theorem dX12_advance_265 : decode cX12_advance 265 = .ok (.iconst 1, 1) := by decide +kernel
theorem dX12_advance_266 : decode cX12_advance 266 = .ok (.goto 4, 3) := by decide +kernel
theorem dX12_advance_269 : decode cX12_advance 269 = .ok (.iconst 3, 1) := by decide +kernel
theorem dX12_advance_270 : decode cX12_advance 270 = .ok (.putfield 243, 3) := by decide +kernel
theorem dX12_advance_273 : decode cX12_advance 273 = .ok (.goto 34, 3) := by decide +kernel
theorem dX12_advance_276 : decode cX12_advance 276 = .ok (.aload_n 0, 1) := by decide +kernel
theorem dX12_advance_277 : decode cX12_advance 277 = .ok (.dup, 1) := by decide +kernel
theorem dX12_advance_278 : decode cX12_advance 278 = .ok (.getfield 226, 3) := by decide +kernel
theorem dX12_advance_281 : decode cX12_advance 281 = .ok (.iconst 1, 1) := by decide +kernel
theorem dX12_advance_282 : decode cX12_advance 282 = .ok (.iadd, 1) := by decide +kernel
theorem dX12_advance_283 : decode cX12_advance 283 = .ok (.putfield 226, 3) := by decide +kernel
theorem dX12_advance_286 : decode cX12_advance 286 = .ok (.aload_n 0, 1) := by decide +kernel
theorem dX12_advance_287 : decode cX12_advance 287 = .ok (.iload_n 1, 1) := by decide +kernel
theorem dX12_advance_288 : decode cX12_advance 288 = .ok (.putfield 252, 3) := by decide +kernel
theorem dX12_advance_291 : decode cX12_advance 291 = .ok (.aload_n 0, 1) := by decide +kernel
theorem dX12_advance_292 : decode cX12_advance 292 = .ok (.iload_n 1, 1) := by decide +kernel
theorem dX12_advance_293 : decode cX12_advance 293 = .ok (.invokestatic 255, 3) := by decide +kernel
theorem dX12_advance_296 : decode cX12_advance 296 = .ok (.ifCond .eq 7, 3) := by decide +kernel
theorem dX12_advance_299 : decode cX12_advance 299 = .ok (.iconst 4, 1) := by decide +kernel
theorem dX12_advance_300 : decode cX12_advance 300 = .ok (.goto 4, 3) := by decide +kernel
theorem dX12_advance_303 : decode cX12_advance 303 = .ok (.iconst 1, 1) := by decide +kernel
theorem dX12_advance_304 : decode cX12_advance 304 = .ok (.putfield 243, 3) := by decide +kernel
theorem dX12_advance_307 : decode cX12_advance 307 = .ok (.return_, 1) := by decide +kernel
theorem dX12_fails_0 : decode cX12_fails 0 = .ok (.aload_n 0, 1) := by decide +kernel
theorem dX12_fails_1 : decode cX12_fails 1 = .ok (.iload_n 1, 1) := by decide +kernel
theorem dX12_fails_2 : decode cX12_fails 2 = .ok (.putfield 258, 3) := by decide +kernel
theorem dX12_fails_5 : decode cX12_fails 5 = .ok (.aload_n 0, 1) := by decide +kernel
theorem dX12_fails_6 : decode cX12_fails 6 = .ok (.aload_n 0, 1) := by decide +kernel
theorem dX12_fails_7 : decode cX12_fails 7 = .ok (.getfield 237, 3) := by decide +kernel
theorem dX12_fails_10 : decode cX12_fails 10 = .ok (.putfield 141, 3) := by decide +kernel
theorem dX12_fails_13 : decode cX12_fails 13 = .ok (.iconst 0, 1) := by decide +kernel
theorem dX12_fails_14 : decode cX12_fails 14 = .ok (.ireturn, 1) := by decide +kernel
theorem dX12_wrong_0 : decode cX12_wrong 0 = .ok (.aload_n 0, 1) := by decide +kernel
theorem dX12_wrong_1 : decode cX12_wrong 1 = .ok (.aload_n 0, 1) := by decide +kernel
theorem dX12_wrong_2 : decode cX12_wrong 2 = .ok (.getfield 243, 3) := by decide +kernel
theorem dX12_wrong_5 : decode cX12_wrong 5 = .ok (.iconst 1, 1) := by decide +kernel
theorem dX12_wrong_6 : decode cX12_wrong 6 = .ok (.if_icmp .ne 7, 3) := by decide +kernel
theorem dX12_wrong_9 : decode cX12_wrong 9 = .ok (.iconst 1, 1) := by decide +kernel
theorem dX12_wrong_10 : decode cX12_wrong 10 = .ok (.goto 4, 3) := by decide +kernel
theorem dX12_wrong_13 : decode cX12_wrong 13 = .ok (.iconst 2, 1) := by decide +kernel
theorem dX12_wrong_14 : decode cX12_wrong 14 = .ok (.invokevirtual 261, 3) := by decide +kernel
theorem dX12_wrong_17 : decode cX12_wrong 17 = .ok (.ireturn, 1) := by decide +kernel
theorem dX12_is_0 : decode cX12_is 0 = .ok (.aload_n 0, 1) := by decide +kernel
theorem dX12_is_1 : decode cX12_is 1 = .ok (.getfield 243, 3) := by decide +kernel
theorem dX12_is_4 : decode cX12_is 4 = .ok (.iconst 4, 1) := by decide +kernel
theorem dX12_is_5 : decode cX12_is 5 = .ok (.if_icmp .ne 15, 3) := by decide +kernel
theorem dX12_is_8 : decode cX12_is 8 = .ok (.aload_n 0, 1) := by decide +kernel
theorem dX12_is_9 : decode cX12_is 9 = .ok (.getfield 252, 3) := by decide +kernel
theorem dX12_is_12 : decode cX12_is 12 = .ok (.iload_n 1, 1) := by decide +kernel
theorem dX12_is_13 : decode cX12_is 13 = .ok (.if_icmp .ne 7, 3) := by decide +kernel
theorem dX12_is_16 : decode cX12_is 16 = .ok (.iconst 1, 1) := by decide +kernel
theorem dX12_is_17 : decode cX12_is 17 = .ok (.goto 4, 3) := by decide +kernel
theorem dX12_is_20 : decode cX12_is 20 = .ok (.iconst 0, 1) := by decide +kernel
theorem dX12_is_21 : decode cX12_is 21 = .ok (.ireturn, 1) := by decide +kernel
theorem dX12_needs_0 : decode cX12_needs 0 = .ok (.aload_n 0, 1) := by decide +kernel
theorem dX12_needs_1 : decode cX12_needs 1 = .ok (.iload_n 1, 1) := by decide +kernel
theorem dX12_needs_2 : decode cX12_needs 2 = .ok (.invokevirtual 264, 3) := by decide +kernel
theorem dX12_needs_5 : decode cX12_needs 5 = .ok (.ifCond .ne 8, 3) := by decide +kernel
theorem dX12_needs_8 : decode cX12_needs 8 = .ok (.aload_n 0, 1) := by decide +kernel
theorem dX12_needs_9 : decode cX12_needs 9 = .ok (.invokevirtual 267, 3) := by decide +kernel
theorem dX12_needs_12 : decode cX12_needs 12 = .ok (.ireturn, 1) := by decide +kernel
theorem dX12_needs_13 : decode cX12_needs 13 = .ok (.aload_n 0, 1) := by decide +kernel
theorem dX12_needs_14 : decode cX12_needs 14 = .ok (.invokevirtual 271, 3) := by decide +kernel
theorem dX12_needs_17 : decode cX12_needs 17 = .ok (.iconst 1, 1) := by decide +kernel
theorem dX12_needs_18 : decode cX12_needs 18 = .ok (.ireturn, 1) := by decide +kernel
theorem dX12_two_0 : decode cX12_two 0 = .ok (.lload_n 0, 1) := by decide +kernel
theorem dX12_two_1 : decode cX12_two 1 = .ok (.ldc2_w 250, 3) := by decide +kernel
theorem dX12_two_4 : decode cX12_two 4 = .ok (.lmul, 1) := by decide +kernel
theorem dX12_two_5 : decode cX12_two 5 = .ok (.iload_n 2, 1) := by decide +kernel
theorem dX12_two_6 : decode cX12_two 6 = .ok (.i2l, 1) := by decide +kernel
theorem dX12_two_7 : decode cX12_two 7 = .ok (.ladd, 1) := by decide +kernel
theorem dX12_two_8 : decode cX12_two 8 = .ok (.ldc2_w 274, 3) := by decide +kernel
theorem dX12_two_11 : decode cX12_two 11 = .ok (.lsub, 1) := by decide +kernel
theorem dX12_two_12 : decode cX12_two 12 = .ok (.ldc2_w 250, 3) := by decide +kernel
theorem dX12_two_15 : decode cX12_two 15 = .ok (.lmul, 1) := by decide +kernel
theorem dX12_two_16 : decode cX12_two 16 = .ok (.iload_n 3, 1) := by decide +kernel
theorem dX12_two_17 : decode cX12_two 17 = .ok (.i2l, 1) := by decide +kernel
theorem dX12_two_18 : decode cX12_two 18 = .ok (.ladd, 1) := by decide +kernel
theorem dX12_two_19 : decode cX12_two 19 = .ok (.ldc2_w 274, 3) := by decide +kernel
theorem dX12_two_22 : decode cX12_two 22 = .ok (.lsub, 1) := by decide +kernel
theorem dX12_two_23 : decode cX12_two 23 = .ok (.lreturn, 1) := by decide +kernel
theorem dX12_one_0 : decode cX12_one 0 = .ok (.lload_n 0, 1) := by decide +kernel
theorem dX12_one_1 : decode cX12_one 1 = .ok (.ldc2_w 250, 3) := by decide +kernel
theorem dX12_one_4 : decode cX12_one 4 = .ok (.lmul, 1) := by decide +kernel
theorem dX12_one_5 : decode cX12_one 5 = .ok (.iload_n 2, 1) := by decide +kernel
theorem dX12_one_6 : decode cX12_one 6 = .ok (.i2l, 1) := by decide +kernel
theorem dX12_one_7 : decode cX12_one 7 = .ok (.ladd, 1) := by decide +kernel
theorem dX12_one_8 : decode cX12_one 8 = .ok (.ldc2_w 274, 3) := by decide +kernel
theorem dX12_one_11 : decode cX12_one 11 = .ok (.lsub, 1) := by decide +kernel
theorem dX12_one_12 : decode cX12_one 12 = .ok (.lreturn, 1) := by decide +kernel
theorem dX12_toldWord_0 : decode cX12_toldWord 0 = .ok (.aload_n 0, 1) := by decide +kernel
theorem dX12_toldWord_1 : decode cX12_toldWord 1 = .ok (.getfield 243, 3) := by decide +kernel
theorem dX12_toldWord_4 : decode cX12_toldWord 4 = .ok (.iconst 2, 1) := by decide +kernel
theorem dX12_toldWord_5 : decode cX12_toldWord 5 = .ok (.if_icmp .eq 5, 3) := by decide +kernel
theorem dX12_toldWord_8 : decode cX12_toldWord 8 = .ok (.iconst (-1), 1) := by decide +kernel
theorem dX12_toldWord_9 : decode cX12_toldWord 9 = .ok (.ireturn, 1) := by decide +kernel
theorem dX12_toldWord_10 : decode cX12_toldWord 10 = .ok (.aload_n 0, 1) := by decide +kernel
theorem dX12_toldWord_11 : decode cX12_toldWord 11 = .ok (.getfield 246, 3) := by decide +kernel
theorem dX12_toldWord_14 : decode cX12_toldWord 14 = .ok (.lstore_n 1, 1) := by decide +kernel
theorem dX12_toldWord_15 : decode cX12_toldWord 15 = .ok (.lload_n 1, 1) := by decide +kernel
theorem dX12_toldWord_16 : decode cX12_toldWord 16 = .ok (.lconst 0, 1) := by decide +kernel
theorem dX12_toldWord_17 : decode cX12_toldWord 17 = .ok (.bipush 99, 2) := by decide +kernel
theorem dX12_toldWord_19 : decode cX12_toldWord 19 = .ok (.bipush 108, 2) := by decide +kernel
theorem dX12_toldWord_21 : decode cX12_toldWord 21 = .ok (.invokestatic 276, 3) := by decide +kernel
theorem dX12_toldWord_24 : decode cX12_toldWord 24 = .ok (.bipush 97, 2) := by decide +kernel
theorem dX12_toldWord_26 : decode cX12_toldWord 26 = .ok (.bipush 115, 2) := by decide +kernel
theorem dX12_toldWord_28 : decode cX12_toldWord 28 = .ok (.invokestatic 276, 3) := by decide +kernel
theorem dX12_toldWord_31 : decode cX12_toldWord 31 = .ok (.bipush 115, 2) := by decide +kernel
theorem dX12_toldWord_33 : decode cX12_toldWord 33 = .ok (.invokestatic 280, 3) := by decide +kernel
theorem dX12_toldWord_36 : decode cX12_toldWord 36 = .ok (.lcmp, 1) := by decide +kernel
theorem dX12_toldWord_37 : decode cX12_toldWord 37 = .ok (.ifCond .ne 5, 3) := by decide +kernel
theorem dX12_toldWord_40 : decode cX12_toldWord 40 = .ok (.iconst 0, 1) := by decide +kernel
theorem dX12_toldWord_41 : decode cX12_toldWord 41 = .ok (.ireturn, 1) := by decide +kernel
theorem dX12_toldWord_42 : decode cX12_toldWord 42 = .ok (.lload_n 1, 1) := by decide +kernel
theorem dX12_toldWord_43 : decode cX12_toldWord 43 = .ok (.lconst 0, 1) := by decide +kernel
theorem dX12_toldWord_44 : decode cX12_toldWord 44 = .ok (.bipush 111, 2) := by decide +kernel
theorem dX12_toldWord_46 : decode cX12_toldWord 46 = .ok (.bipush 102, 2) := by decide +kernel
theorem dX12_toldWord_48 : decode cX12_toldWord 48 = .ok (.invokestatic 276, 3) := by decide +kernel
theorem dX12_toldWord_51 : decode cX12_toldWord 51 = .ok (.lcmp, 1) := by decide +kernel
theorem dX12_toldWord_52 : decode cX12_toldWord 52 = .ok (.ifCond .ne 5, 3) := by decide +kernel
theorem dX12_toldWord_55 : decode cX12_toldWord 55 = .ok (.iconst 1, 1) := by decide +kernel
theorem dX12_toldWord_56 : decode cX12_toldWord 56 = .ok (.ireturn, 1) := by decide +kernel
theorem dX12_toldWord_57 : decode cX12_toldWord 57 = .ok (.lload_n 1, 1) := by decide +kernel
theorem dX12_toldWord_58 : decode cX12_toldWord 58 = .ok (.lconst 0, 1) := by decide +kernel
theorem dX12_toldWord_59 : decode cX12_toldWord 59 = .ok (.bipush 119, 2) := by decide +kernel
theorem dX12_toldWord_61 : decode cX12_toldWord 61 = .ok (.bipush 97, 2) := by decide +kernel
theorem dX12_toldWord_63 : decode cX12_toldWord 63 = .ok (.invokestatic 276, 3) := by decide +kernel
theorem dX12_toldWord_66 : decode cX12_toldWord 66 = .ok (.bipush 121, 2) := by decide +kernel
theorem dX12_toldWord_68 : decode cX12_toldWord 68 = .ok (.invokestatic 280, 3) := by decide +kernel
theorem dX12_toldWord_71 : decode cX12_toldWord 71 = .ok (.lcmp, 1) := by decide +kernel
theorem dX12_toldWord_72 : decode cX12_toldWord 72 = .ok (.ifCond .ne 5, 3) := by decide +kernel
theorem dX12_toldWord_75 : decode cX12_toldWord 75 = .ok (.iconst 2, 1) := by decide +kernel
theorem dX12_toldWord_76 : decode cX12_toldWord 76 = .ok (.ireturn, 1) := by decide +kernel
theorem dX12_toldWord_77 : decode cX12_toldWord 77 = .ok (.lload_n 1, 1) := by decide +kernel
theorem dX12_toldWord_78 : decode cX12_toldWord 78 = .ok (.lconst 0, 1) := by decide +kernel
theorem dX12_toldWord_79 : decode cX12_toldWord 79 = .ok (.bipush 111, 2) := by decide +kernel
theorem dX12_toldWord_81 : decode cX12_toldWord 81 = .ok (.bipush 110, 2) := by decide +kernel
theorem dX12_toldWord_83 : decode cX12_toldWord 83 = .ok (.invokestatic 276, 3) := by decide +kernel
theorem dX12_toldWord_86 : decode cX12_toldWord 86 = .ok (.bipush 101, 2) := by decide +kernel
theorem dX12_toldWord_88 : decode cX12_toldWord 88 = .ok (.invokestatic 280, 3) := by decide +kernel
theorem dX12_toldWord_91 : decode cX12_toldWord 91 = .ok (.lcmp, 1) := by decide +kernel
theorem dX12_toldWord_92 : decode cX12_toldWord 92 = .ok (.ifCond .ne 5, 3) := by decide +kernel
theorem dX12_toldWord_95 : decode cX12_toldWord 95 = .ok (.iconst 3, 1) := by decide +kernel
theorem dX12_toldWord_96 : decode cX12_toldWord 96 = .ok (.ireturn, 1) := by decide +kernel
theorem dX12_toldWord_97 : decode cX12_toldWord 97 = .ok (.lload_n 1, 1) := by decide +kernel
theorem dX12_toldWord_98 : decode cX12_toldWord 98 = .ok (.lconst 0, 1) := by decide +kernel
theorem dX12_toldWord_99 : decode cX12_toldWord 99 = .ok (.bipush 106, 2) := by decide +kernel
theorem dX12_toldWord_101 : decode cX12_toldWord 101 = .ok (.bipush 111, 2) := by decide +kernel
theorem dX12_toldWord_103 : decode cX12_toldWord 103 = .ok (.invokestatic 276, 3) := by decide +kernel
theorem dX12_toldWord_106 : decode cX12_toldWord 106 = .ok (.bipush 105, 2) := by decide +kernel
theorem dX12_toldWord_108 : decode cX12_toldWord 108 = .ok (.bipush 110, 2) := by decide +kernel
theorem dX12_toldWord_110 : decode cX12_toldWord 110 = .ok (.invokestatic 276, 3) := by decide +kernel
theorem dX12_toldWord_113 : decode cX12_toldWord 113 = .ok (.bipush 101, 2) := by decide +kernel
theorem dX12_toldWord_115 : decode cX12_toldWord 115 = .ok (.bipush 100, 2) := by decide +kernel
theorem dX12_toldWord_117 : decode cX12_toldWord 117 = .ok (.invokestatic 276, 3) := by decide +kernel
theorem dX12_toldWord_120 : decode cX12_toldWord 120 = .ok (.lcmp, 1) := by decide +kernel
theorem dX12_toldWord_121 : decode cX12_toldWord 121 = .ok (.ifCond .ne 5, 3) := by decide +kernel
theorem dX12_toldWord_124 : decode cX12_toldWord 124 = .ok (.iconst 4, 1) := by decide +kernel
theorem dX12_toldWord_125 : decode cX12_toldWord 125 = .ok (.ireturn, 1) := by decide +kernel
theorem dX12_toldWord_126 : decode cX12_toldWord 126 = .ok (.lload_n 1, 1) := by decide +kernel
theorem dX12_toldWord_127 : decode cX12_toldWord 127 = .ok (.lconst 0, 1) := by decide +kernel
theorem dX12_toldWord_128 : decode cX12_toldWord 128 = .ok (.bipush 111, 2) := by decide +kernel
theorem dX12_toldWord_130 : decode cX12_toldWord 130 = .ok (.bipush 119, 2) := by decide +kernel
theorem dX12_toldWord_132 : decode cX12_toldWord 132 = .ok (.invokestatic 276, 3) := by decide +kernel
theorem dX12_toldWord_135 : decode cX12_toldWord 135 = .ok (.bipush 110, 2) := by decide +kernel
theorem dX12_toldWord_137 : decode cX12_toldWord 137 = .ok (.invokestatic 280, 3) := by decide +kernel
theorem dX12_toldWord_140 : decode cX12_toldWord 140 = .ok (.lcmp, 1) := by decide +kernel
theorem dX12_toldWord_141 : decode cX12_toldWord 141 = .ok (.ifCond .ne 5, 3) := by decide +kernel
theorem dX12_toldWord_144 : decode cX12_toldWord 144 = .ok (.iconst 5, 1) := by decide +kernel
theorem dX12_toldWord_145 : decode cX12_toldWord 145 = .ok (.ireturn, 1) := by decide +kernel
theorem dX12_toldWord_146 : decode cX12_toldWord 146 = .ok (.lload_n 1, 1) := by decide +kernel
theorem dX12_toldWord_147 : decode cX12_toldWord 147 = .ok (.lconst 0, 1) := by decide +kernel
theorem dX12_toldWord_148 : decode cX12_toldWord 148 = .ok (.bipush 116, 2) := by decide +kernel
theorem dX12_toldWord_150 : decode cX12_toldWord 150 = .ok (.bipush 111, 2) := by decide +kernel
theorem dX12_toldWord_152 : decode cX12_toldWord 152 = .ok (.invokestatic 276, 3) := by decide +kernel
theorem dX12_toldWord_155 : decode cX12_toldWord 155 = .ok (.lcmp, 1) := by decide +kernel
theorem dX12_toldWord_156 : decode cX12_toldWord 156 = .ok (.ifCond .ne 6, 3) := by decide +kernel
theorem dX12_toldWord_159 : decode cX12_toldWord 159 = .ok (.bipush 6, 2) := by decide +kernel
theorem dX12_toldWord_161 : decode cX12_toldWord 161 = .ok (.ireturn, 1) := by decide +kernel
theorem dX12_toldWord_162 : decode cX12_toldWord 162 = .ok (.lload_n 1, 1) := by decide +kernel
theorem dX12_toldWord_163 : decode cX12_toldWord 163 = .ok (.lconst 0, 1) := by decide +kernel
theorem dX12_toldWord_164 : decode cX12_toldWord 164 = .ok (.bipush 108, 2) := by decide +kernel
theorem dX12_toldWord_166 : decode cX12_toldWord 166 = .ok (.bipush 105, 2) := by decide +kernel
theorem dX12_toldWord_168 : decode cX12_toldWord 168 = .ok (.invokestatic 276, 3) := by decide +kernel
theorem dX12_toldWord_171 : decode cX12_toldWord 171 = .ok (.bipush 115, 2) := by decide +kernel
theorem dX12_toldWord_173 : decode cX12_toldWord 173 = .ok (.bipush 116, 2) := by decide +kernel
theorem dX12_toldWord_175 : decode cX12_toldWord 175 = .ok (.invokestatic 276, 3) := by decide +kernel
theorem dX12_toldWord_178 : decode cX12_toldWord 178 = .ok (.lcmp, 1) := by decide +kernel
theorem dX12_toldWord_179 : decode cX12_toldWord 179 = .ok (.ifCond .ne 6, 3) := by decide +kernel
theorem dX12_toldWord_182 : decode cX12_toldWord 182 = .ok (.bipush 7, 2) := by decide +kernel
theorem dX12_toldWord_184 : decode cX12_toldWord 184 = .ok (.ireturn, 1) := by decide +kernel
theorem dX12_toldWord_185 : decode cX12_toldWord 185 = .ok (.lload_n 1, 1) := by decide +kernel
theorem dX12_toldWord_186 : decode cX12_toldWord 186 = .ok (.lconst 0, 1) := by decide +kernel
theorem dX12_toldWord_187 : decode cX12_toldWord 187 = .ok (.bipush 98, 2) := by decide +kernel
theorem dX12_toldWord_189 : decode cX12_toldWord 189 = .ok (.bipush 121, 2) := by decide +kernel
theorem dX12_toldWord_191 : decode cX12_toldWord 191 = .ok (.invokestatic 276, 3) := by decide +kernel
theorem dX12_toldWord_194 : decode cX12_toldWord 194 = .ok (.lcmp, 1) := by decide +kernel
theorem dX12_toldWord_195 : decode cX12_toldWord 195 = .ok (.ifCond .ne 6, 3) := by decide +kernel
theorem dX12_toldWord_198 : decode cX12_toldWord 198 = .ok (.bipush 8, 2) := by decide +kernel
theorem dX12_toldWord_200 : decode cX12_toldWord 200 = .ok (.ireturn, 1) := by decide +kernel
theorem dX12_toldWord_201 : decode cX12_toldWord 201 = .ok (.lload_n 1, 1) := by decide +kernel
theorem dX12_toldWord_202 : decode cX12_toldWord 202 = .ok (.lconst 0, 1) := by decide +kernel
theorem dX12_toldWord_203 : decode cX12_toldWord 203 = .ok (.bipush 109, 2) := by decide +kernel
theorem dX12_toldWord_205 : decode cX12_toldWord 205 = .ok (.bipush 117, 2) := by decide +kernel
theorem dX12_toldWord_207 : decode cX12_toldWord 207 = .ok (.invokestatic 276, 3) := by decide +kernel
theorem dX12_toldWord_210 : decode cX12_toldWord 210 = .ok (.bipush 115, 2) := by decide +kernel
theorem dX12_toldWord_212 : decode cX12_toldWord 212 = .ok (.bipush 116, 2) := by decide +kernel
theorem dX12_toldWord_214 : decode cX12_toldWord 214 = .ok (.invokestatic 276, 3) := by decide +kernel
theorem dX12_toldWord_217 : decode cX12_toldWord 217 = .ok (.lcmp, 1) := by decide +kernel
theorem dX12_toldWord_218 : decode cX12_toldWord 218 = .ok (.ifCond .ne 6, 3) := by decide +kernel
theorem dX12_toldWord_221 : decode cX12_toldWord 221 = .ok (.bipush 9, 2) := by decide +kernel
theorem dX12_toldWord_223 : decode cX12_toldWord 223 = .ok (.ireturn, 1) := by decide +kernel
theorem dX12_toldWord_224 : decode cX12_toldWord 224 = .ok (.lload_n 1, 1) := by decide +kernel
theorem dX12_toldWord_225 : decode cX12_toldWord 225 = .ok (.lconst 0, 1) := by decide +kernel
theorem dX12_toldWord_226 : decode cX12_toldWord 226 = .ok (.bipush 111, 2) := by decide +kernel
theorem dX12_toldWord_228 : decode cX12_toldWord 228 = .ok (.bipush 119, 2) := by decide +kernel
theorem dX12_toldWord_230 : decode cX12_toldWord 230 = .ok (.invokestatic 276, 3) := by decide +kernel
theorem dX12_toldWord_233 : decode cX12_toldWord 233 = .ok (.bipush 110, 2) := by decide +kernel
theorem dX12_toldWord_235 : decode cX12_toldWord 235 = .ok (.bipush 101, 2) := by decide +kernel
theorem dX12_toldWord_237 : decode cX12_toldWord 237 = .ok (.invokestatic 276, 3) := by decide +kernel
theorem dX12_toldWord_240 : decode cX12_toldWord 240 = .ok (.bipush 100, 2) := by decide +kernel
theorem dX12_toldWord_242 : decode cX12_toldWord 242 = .ok (.invokestatic 280, 3) := by decide +kernel
theorem dX12_toldWord_245 : decode cX12_toldWord 245 = .ok (.lcmp, 1) := by decide +kernel
theorem dX12_toldWord_246 : decode cX12_toldWord 246 = .ok (.ifCond .ne 6, 3) := by decide +kernel
theorem dX12_toldWord_249 : decode cX12_toldWord 249 = .ok (.bipush 10, 2) := by decide +kernel
theorem dX12_toldWord_251 : decode cX12_toldWord 251 = .ok (.ireturn, 1) := by decide +kernel
theorem dX12_toldWord_252 : decode cX12_toldWord 252 = .ok (.lload_n 1, 1) := by decide +kernel
theorem dX12_toldWord_253 : decode cX12_toldWord 253 = .ok (.lconst 0, 1) := by decide +kernel
theorem dX12_toldWord_254 : decode cX12_toldWord 254 = .ok (.bipush 117, 2) := by decide +kernel
theorem dX12_toldWord_256 : decode cX12_toldWord 256 = .ok (.bipush 110, 2) := by decide +kernel
theorem dX12_toldWord_258 : decode cX12_toldWord 258 = .ok (.invokestatic 276, 3) := by decide +kernel
theorem dX12_toldWord_261 : decode cX12_toldWord 261 = .ok (.bipush 105, 2) := by decide +kernel
theorem dX12_toldWord_263 : decode cX12_toldWord 263 = .ok (.bipush 113, 2) := by decide +kernel
theorem dX12_toldWord_265 : decode cX12_toldWord 265 = .ok (.invokestatic 276, 3) := by decide +kernel
theorem dX12_toldWord_268 : decode cX12_toldWord 268 = .ok (.bipush 117, 2) := by decide +kernel
theorem dX12_toldWord_270 : decode cX12_toldWord 270 = .ok (.bipush 101, 2) := by decide +kernel
theorem dX12_toldWord_272 : decode cX12_toldWord 272 = .ok (.invokestatic 276, 3) := by decide +kernel
theorem dX12_toldWord_275 : decode cX12_toldWord 275 = .ok (.lcmp, 1) := by decide +kernel
theorem dX12_toldWord_276 : decode cX12_toldWord 276 = .ok (.ifCond .ne 6, 3) := by decide +kernel
theorem dX12_toldWord_279 : decode cX12_toldWord 279 = .ok (.bipush 11, 2) := by decide +kernel
theorem dX12_toldWord_281 : decode cX12_toldWord 281 = .ok (.ireturn, 1) := by decide +kernel
theorem dX12_toldWord_282 : decode cX12_toldWord 282 = .ok (.lload_n 1, 1) := by decide +kernel
theorem dX12_toldWord_283 : decode cX12_toldWord 283 = .ok (.lconst 0, 1) := by decide +kernel
theorem dX12_toldWord_284 : decode cX12_toldWord 284 = .ok (.bipush 119, 2) := by decide +kernel
theorem dX12_toldWord_286 : decode cX12_toldWord 286 = .ok (.bipush 104, 2) := by decide +kernel
theorem dX12_toldWord_288 : decode cX12_toldWord 288 = .ok (.invokestatic 276, 3) := by decide +kernel
theorem dX12_toldWord_291 : decode cX12_toldWord 291 = .ok (.bipush 111, 2) := by decide +kernel
theorem dX12_toldWord_293 : decode cX12_toldWord 293 = .ok (.bipush 108, 2) := by decide +kernel
theorem dX12_toldWord_295 : decode cX12_toldWord 295 = .ok (.invokestatic 276, 3) := by decide +kernel
theorem dX12_toldWord_298 : decode cX12_toldWord 298 = .ok (.bipush 101, 2) := by decide +kernel
theorem dX12_toldWord_300 : decode cX12_toldWord 300 = .ok (.invokestatic 280, 3) := by decide +kernel
theorem dX12_toldWord_303 : decode cX12_toldWord 303 = .ok (.lcmp, 1) := by decide +kernel
theorem dX12_toldWord_304 : decode cX12_toldWord 304 = .ok (.ifCond .ne 6, 3) := by decide +kernel
theorem dX12_toldWord_307 : decode cX12_toldWord 307 = .ok (.bipush 12, 2) := by decide +kernel
theorem dX12_toldWord_309 : decode cX12_toldWord 309 = .ok (.ireturn, 1) := by decide +kernel
theorem dX12_toldWord_310 : decode cX12_toldWord 310 = .ok (.lload_n 1, 1) := by decide +kernel
theorem dX12_toldWord_311 : decode cX12_toldWord 311 = .ok (.lconst 0, 1) := by decide +kernel
theorem dX12_toldWord_312 : decode cX12_toldWord 312 = .ok (.bipush 115, 2) := by decide +kernel
theorem dX12_toldWord_314 : decode cX12_toldWord 314 = .ok (.bipush 109, 2) := by decide +kernel
theorem dX12_toldWord_316 : decode cX12_toldWord 316 = .ok (.invokestatic 276, 3) := by decide +kernel
theorem dX12_toldWord_319 : decode cX12_toldWord 319 = .ok (.bipush 97, 2) := by decide +kernel
theorem dX12_toldWord_321 : decode cX12_toldWord 321 = .ok (.bipush 108, 2) := by decide +kernel
theorem dX12_toldWord_323 : decode cX12_toldWord 323 = .ok (.invokestatic 276, 3) := by decide +kernel
theorem dX12_toldWord_326 : decode cX12_toldWord 326 = .ok (.bipush 108, 2) := by decide +kernel
theorem dX12_toldWord_328 : decode cX12_toldWord 328 = .ok (.invokestatic 280, 3) := by decide +kernel
theorem dX12_toldWord_331 : decode cX12_toldWord 331 = .ok (.lcmp, 1) := by decide +kernel
theorem dX12_toldWord_332 : decode cX12_toldWord 332 = .ok (.ifCond .ne 6, 3) := by decide +kernel
theorem dX12_toldWord_335 : decode cX12_toldWord 335 = .ok (.bipush 13, 2) := by decide +kernel
theorem dX12_toldWord_337 : decode cX12_toldWord 337 = .ok (.ireturn, 1) := by decide +kernel
theorem dX12_toldWord_338 : decode cX12_toldWord 338 = .ok (.lload_n 1, 1) := by decide +kernel
theorem dX12_toldWord_339 : decode cX12_toldWord 339 = .ok (.lconst 0, 1) := by decide +kernel
theorem dX12_toldWord_340 : decode cX12_toldWord 340 = .ok (.bipush 102, 2) := by decide +kernel
theorem dX12_toldWord_342 : decode cX12_toldWord 342 = .ok (.bipush 108, 2) := by decide +kernel
theorem dX12_toldWord_344 : decode cX12_toldWord 344 = .ok (.invokestatic 276, 3) := by decide +kernel
theorem dX12_toldWord_347 : decode cX12_toldWord 347 = .ok (.bipush 97, 2) := by decide +kernel
theorem dX12_toldWord_349 : decode cX12_toldWord 349 = .ok (.bipush 103, 2) := by decide +kernel
theorem dX12_toldWord_351 : decode cX12_toldWord 351 = .ok (.invokestatic 276, 3) := by decide +kernel
theorem dX12_toldWord_354 : decode cX12_toldWord 354 = .ok (.lcmp, 1) := by decide +kernel
theorem dX12_toldWord_355 : decode cX12_toldWord 355 = .ok (.ifCond .ne 6, 3) := by decide +kernel
theorem dX12_toldWord_358 : decode cX12_toldWord 358 = .ok (.bipush 14, 2) := by decide +kernel
theorem dX12_toldWord_360 : decode cX12_toldWord 360 = .ok (.ireturn, 1) := by decide +kernel
theorem dX12_toldWord_361 : decode cX12_toldWord 361 = .ok (.lload_n 1, 1) := by decide +kernel
theorem dX12_toldWord_362 : decode cX12_toldWord 362 = .ok (.lconst 0, 1) := by decide +kernel
theorem dX12_toldWord_363 : decode cX12_toldWord 363 = .ok (.bipush 104, 2) := by decide +kernel
theorem dX12_toldWord_365 : decode cX12_toldWord 365 = .ok (.bipush 111, 2) := by decide +kernel
theorem dX12_toldWord_367 : decode cX12_toldWord 367 = .ok (.invokestatic 276, 3) := by decide +kernel
theorem dX12_toldWord_370 : decode cX12_toldWord 370 = .ok (.bipush 111, 2) := by decide +kernel
theorem dX12_toldWord_372 : decode cX12_toldWord 372 = .ok (.bipush 107, 2) := by decide +kernel
theorem dX12_toldWord_374 : decode cX12_toldWord 374 = .ok (.invokestatic 276, 3) := by decide +kernel
theorem dX12_toldWord_377 : decode cX12_toldWord 377 = .ok (.lcmp, 1) := by decide +kernel
theorem dX12_toldWord_378 : decode cX12_toldWord 378 = .ok (.ifCond .ne 6, 3) := by decide +kernel
theorem dX12_toldWord_381 : decode cX12_toldWord 381 = .ok (.bipush 15, 2) := by decide +kernel
theorem dX12_toldWord_383 : decode cX12_toldWord 383 = .ok (.ireturn, 1) := by decide +kernel
theorem dX12_toldWord_384 : decode cX12_toldWord 384 = .ok (.lload_n 1, 1) := by decide +kernel
theorem dX12_toldWord_385 : decode cX12_toldWord 385 = .ok (.lconst 0, 1) := by decide +kernel
theorem dX12_toldWord_386 : decode cX12_toldWord 386 = .ok (.bipush 105, 2) := by decide +kernel
theorem dX12_toldWord_388 : decode cX12_toldWord 388 = .ok (.bipush 110, 2) := by decide +kernel
theorem dX12_toldWord_390 : decode cX12_toldWord 390 = .ok (.invokestatic 276, 3) := by decide +kernel
theorem dX12_toldWord_393 : decode cX12_toldWord 393 = .ok (.bipush 115, 2) := by decide +kernel
theorem dX12_toldWord_395 : decode cX12_toldWord 395 = .ok (.bipush 101, 2) := by decide +kernel
theorem dX12_toldWord_397 : decode cX12_toldWord 397 = .ok (.invokestatic 276, 3) := by decide +kernel
theorem dX12_toldWord_400 : decode cX12_toldWord 400 = .ok (.bipush 114, 2) := by decide +kernel
theorem dX12_toldWord_402 : decode cX12_toldWord 402 = .ok (.bipush 116, 2) := by decide +kernel
theorem dX12_toldWord_404 : decode cX12_toldWord 404 = .ok (.invokestatic 276, 3) := by decide +kernel
theorem dX12_toldWord_407 : decode cX12_toldWord 407 = .ok (.lcmp, 1) := by decide +kernel
theorem dX12_toldWord_408 : decode cX12_toldWord 408 = .ok (.ifCond .ne 6, 3) := by decide +kernel
theorem dX12_toldWord_411 : decode cX12_toldWord 411 = .ok (.bipush 16, 2) := by decide +kernel
theorem dX12_toldWord_413 : decode cX12_toldWord 413 = .ok (.ireturn, 1) := by decide +kernel
theorem dX12_toldWord_414 : decode cX12_toldWord 414 = .ok (.lload_n 1, 1) := by decide +kernel
theorem dX12_toldWord_415 : decode cX12_toldWord 415 = .ok (.lconst 0, 1) := by decide +kernel
theorem dX12_toldWord_416 : decode cX12_toldWord 416 = .ok (.bipush 99, 2) := by decide +kernel
theorem dX12_toldWord_418 : decode cX12_toldWord 418 = .ok (.bipush 104, 2) := by decide +kernel
theorem dX12_toldWord_420 : decode cX12_toldWord 420 = .ok (.invokestatic 276, 3) := by decide +kernel
theorem dX12_toldWord_423 : decode cX12_toldWord 423 = .ok (.bipush 97, 2) := by decide +kernel
theorem dX12_toldWord_425 : decode cX12_toldWord 425 = .ok (.bipush 110, 2) := by decide +kernel
theorem dX12_toldWord_427 : decode cX12_toldWord 427 = .ok (.invokestatic 276, 3) := by decide +kernel
theorem dX12_toldWord_430 : decode cX12_toldWord 430 = .ok (.bipush 103, 2) := by decide +kernel
theorem dX12_toldWord_432 : decode cX12_toldWord 432 = .ok (.bipush 101, 2) := by decide +kernel
theorem dX12_toldWord_434 : decode cX12_toldWord 434 = .ok (.invokestatic 276, 3) := by decide +kernel
theorem dX12_toldWord_437 : decode cX12_toldWord 437 = .ok (.lcmp, 1) := by decide +kernel
theorem dX12_toldWord_438 : decode cX12_toldWord 438 = .ok (.ifCond .ne 6, 3) := by decide +kernel
theorem dX12_toldWord_441 : decode cX12_toldWord 441 = .ok (.bipush 17, 2) := by decide +kernel
theorem dX12_toldWord_443 : decode cX12_toldWord 443 = .ok (.ireturn, 1) := by decide +kernel
theorem dX12_toldWord_444 : decode cX12_toldWord 444 = .ok (.lload_n 1, 1) := by decide +kernel
theorem dX12_toldWord_445 : decode cX12_toldWord 445 = .ok (.lconst 0, 1) := by decide +kernel
theorem dX12_toldWord_446 : decode cX12_toldWord 446 = .ok (.bipush 119, 2) := by decide +kernel
theorem dX12_toldWord_448 : decode cX12_toldWord 448 = .ok (.bipush 104, 2) := by decide +kernel
theorem dX12_toldWord_450 : decode cX12_toldWord 450 = .ok (.invokestatic 276, 3) := by decide +kernel
theorem dX12_toldWord_453 : decode cX12_toldWord 453 = .ok (.bipush 101, 2) := by decide +kernel
theorem dX12_toldWord_455 : decode cX12_toldWord 455 = .ok (.bipush 114, 2) := by decide +kernel
theorem dX12_toldWord_457 : decode cX12_toldWord 457 = .ok (.invokestatic 276, 3) := by decide +kernel
theorem dX12_toldWord_460 : decode cX12_toldWord 460 = .ok (.bipush 101, 2) := by decide +kernel
theorem dX12_toldWord_462 : decode cX12_toldWord 462 = .ok (.invokestatic 280, 3) := by decide +kernel
theorem dX12_toldWord_465 : decode cX12_toldWord 465 = .ok (.lcmp, 1) := by decide +kernel
theorem dX12_toldWord_466 : decode cX12_toldWord 466 = .ok (.ifCond .ne 6, 3) := by decide +kernel
theorem dX12_toldWord_469 : decode cX12_toldWord 469 = .ok (.bipush 18, 2) := by decide +kernel
theorem dX12_toldWord_471 : decode cX12_toldWord 471 = .ok (.ireturn, 1) := by decide +kernel
theorem dX12_toldWord_472 : decode cX12_toldWord 472 = .ok (.lload_n 1, 1) := by decide +kernel
theorem dX12_toldWord_473 : decode cX12_toldWord 473 = .ok (.lconst 0, 1) := by decide +kernel
theorem dX12_toldWord_474 : decode cX12_toldWord 474 = .ok (.bipush 111, 2) := by decide +kernel
theorem dX12_toldWord_476 : decode cX12_toldWord 476 = .ok (.bipush 114, 2) := by decide +kernel
theorem dX12_toldWord_478 : decode cX12_toldWord 478 = .ok (.invokestatic 276, 3) := by decide +kernel
theorem dX12_toldWord_481 : decode cX12_toldWord 481 = .ok (.lcmp, 1) := by decide +kernel
theorem dX12_toldWord_482 : decode cX12_toldWord 482 = .ok (.ifCond .ne 6, 3) := by decide +kernel
theorem dX12_toldWord_485 : decode cX12_toldWord 485 = .ok (.bipush 19, 2) := by decide +kernel
theorem dX12_toldWord_487 : decode cX12_toldWord 487 = .ok (.ireturn, 1) := by decide +kernel
theorem dX12_toldWord_488 : decode cX12_toldWord 488 = .ok (.lload_n 1, 1) := by decide +kernel
theorem dX12_toldWord_489 : decode cX12_toldWord 489 = .ok (.lconst 0, 1) := by decide +kernel
theorem dX12_toldWord_490 : decode cX12_toldWord 490 = .ok (.bipush 97, 2) := by decide +kernel
theorem dX12_toldWord_492 : decode cX12_toldWord 492 = .ok (.bipush 110, 2) := by decide +kernel
theorem dX12_toldWord_494 : decode cX12_toldWord 494 = .ok (.invokestatic 276, 3) := by decide +kernel
theorem dX12_toldWord_497 : decode cX12_toldWord 497 = .ok (.bipush 100, 2) := by decide +kernel
theorem dX12_toldWord_499 : decode cX12_toldWord 499 = .ok (.invokestatic 280, 3) := by decide +kernel
theorem dX12_toldWord_502 : decode cX12_toldWord 502 = .ok (.lcmp, 1) := by decide +kernel
theorem dX12_toldWord_503 : decode cX12_toldWord 503 = .ok (.ifCond .ne 6, 3) := by decide +kernel
theorem dX12_toldWord_506 : decode cX12_toldWord 506 = .ok (.bipush 20, 2) := by decide +kernel
theorem dX12_toldWord_508 : decode cX12_toldWord 508 = .ok (.ireturn, 1) := by decide +kernel
theorem dX12_toldWord_509 : decode cX12_toldWord 509 = .ok (.lload_n 1, 1) := by decide +kernel
theorem dX12_toldWord_510 : decode cX12_toldWord 510 = .ok (.lconst 0, 1) := by decide +kernel
theorem dX12_toldWord_511 : decode cX12_toldWord 511 = .ok (.bipush 110, 2) := by decide +kernel
theorem dX12_toldWord_513 : decode cX12_toldWord 513 = .ok (.bipush 111, 2) := by decide +kernel
theorem dX12_toldWord_515 : decode cX12_toldWord 515 = .ok (.invokestatic 276, 3) := by decide +kernel
theorem dX12_toldWord_518 : decode cX12_toldWord 518 = .ok (.bipush 116, 2) := by decide +kernel
theorem dX12_toldWord_520 : decode cX12_toldWord 520 = .ok (.invokestatic 280, 3) := by decide +kernel
theorem dX12_toldWord_523 : decode cX12_toldWord 523 = .ok (.lcmp, 1) := by decide +kernel
theorem dX12_toldWord_524 : decode cX12_toldWord 524 = .ok (.ifCond .ne 6, 3) := by decide +kernel
theorem dX12_toldWord_527 : decode cX12_toldWord 527 = .ok (.bipush 21, 2) := by decide +kernel
theorem dX12_toldWord_529 : decode cX12_toldWord 529 = .ok (.ireturn, 1) := by decide +kernel
theorem dX12_toldWord_530 : decode cX12_toldWord 530 = .ok (.lload_n 1, 1) := by decide +kernel
theorem dX12_toldWord_531 : decode cX12_toldWord 531 = .ok (.lconst 0, 1) := by decide +kernel
theorem dX12_toldWord_532 : decode cX12_toldWord 532 = .ok (.bipush 101, 2) := by decide +kernel
theorem dX12_toldWord_534 : decode cX12_toldWord 534 = .ok (.bipush 109, 2) := by decide +kernel
theorem dX12_toldWord_536 : decode cX12_toldWord 536 = .ok (.invokestatic 276, 3) := by decide +kernel
theorem dX12_toldWord_539 : decode cX12_toldWord 539 = .ok (.bipush 112, 2) := by decide +kernel
theorem dX12_toldWord_541 : decode cX12_toldWord 541 = .ok (.bipush 116, 2) := by decide +kernel
theorem dX12_toldWord_543 : decode cX12_toldWord 543 = .ok (.invokestatic 276, 3) := by decide +kernel
theorem dX12_toldWord_546 : decode cX12_toldWord 546 = .ok (.bipush 121, 2) := by decide +kernel
theorem dX12_toldWord_548 : decode cX12_toldWord 548 = .ok (.invokestatic 280, 3) := by decide +kernel
theorem dX12_toldWord_551 : decode cX12_toldWord 551 = .ok (.lcmp, 1) := by decide +kernel
theorem dX12_toldWord_552 : decode cX12_toldWord 552 = .ok (.ifCond .ne 6, 3) := by decide +kernel
theorem dX12_toldWord_555 : decode cX12_toldWord 555 = .ok (.bipush 22, 2) := by decide +kernel
theorem dX12_toldWord_557 : decode cX12_toldWord 557 = .ok (.ireturn, 1) := by decide +kernel
theorem dX12_toldWord_558 : decode cX12_toldWord 558 = .ok (.iconst (-1), 1) := by decide +kernel
theorem dX12_toldWord_559 : decode cX12_toldWord 559 = .ok (.ireturn, 1) := by decide +kernel
theorem dX12_isName_0 : decode cX12_isName 0 = .ok (.aload_n 0, 1) := by decide +kernel
theorem dX12_isName_1 : decode cX12_isName 1 = .ok (.getfield 243, 3) := by decide +kernel
theorem dX12_isName_4 : decode cX12_isName 4 = .ok (.iconst 2, 1) := by decide +kernel
theorem dX12_isName_5 : decode cX12_isName 5 = .ok (.if_icmp .ne 14, 3) := by decide +kernel
theorem dX12_isName_8 : decode cX12_isName 8 = .ok (.aload_n 0, 1) := by decide +kernel
theorem dX12_isName_9 : decode cX12_isName 9 = .ok (.invokevirtual 284, 3) := by decide +kernel
theorem dX12_isName_12 : decode cX12_isName 12 = .ok (.ifCond .ge 7, 3) := by decide +kernel
theorem dX12_isName_15 : decode cX12_isName 15 = .ok (.iconst 1, 1) := by decide +kernel
theorem dX12_isName_16 : decode cX12_isName 16 = .ok (.goto 4, 3) := by decide +kernel
theorem dX12_isName_19 : decode cX12_isName 19 = .ok (.iconst 0, 1) := by decide +kernel
theorem dX12_isName_20 : decode cX12_isName 20 = .ok (.ireturn, 1) := by decide +kernel
theorem dX12_needsWord_0 : decode cX12_needsWord 0 = .ok (.aload_n 0, 1) := by decide +kernel
theorem dX12_needsWord_1 : decode cX12_needsWord 1 = .ok (.invokevirtual 284, 3) := by decide +kernel
theorem dX12_needsWord_4 : decode cX12_needsWord 4 = .ok (.iload_n 1, 1) := by decide +kernel
theorem dX12_needsWord_5 : decode cX12_needsWord 5 = .ok (.if_icmp .eq 8, 3) := by decide +kernel
theorem dX12_needsWord_8 : decode cX12_needsWord 8 = .ok (.aload_n 0, 1) := by decide +kernel
theorem dX12_needsWord_9 : decode cX12_needsWord 9 = .ok (.invokevirtual 267, 3) := by decide +kernel
theorem dX12_needsWord_12 : decode cX12_needsWord 12 = .ok (.ireturn, 1) := by decide +kernel
theorem dX12_needsWord_13 : decode cX12_needsWord 13 = .ok (.aload_n 0, 1) := by decide +kernel
theorem dX12_needsWord_14 : decode cX12_needsWord 14 = .ok (.invokevirtual 271, 3) := by decide +kernel
theorem dX12_needsWord_17 : decode cX12_needsWord 17 = .ok (.iconst 1, 1) := by decide +kernel
theorem dX12_needsWord_18 : decode cX12_needsWord 18 = .ok (.ireturn, 1) := by decide +kernel
theorem dX12_classNamed_0 : decode cX12_classNamed 0 = .ok (.iconst 0, 1) := by decide +kernel
theorem dX12_classNamed_1 : decode cX12_classNamed 1 = .ok (.istore 5, 2) := by decide +kernel
theorem dX12_classNamed_3 : decode cX12_classNamed 3 = .ok (.iload 5, 2) := by decide +kernel
theorem dX12_classNamed_5 : decode cX12_classNamed 5 = .ok (.iload_n 2, 1) := by decide +kernel
theorem dX12_classNamed_6 : decode cX12_classNamed 6 = .ok (.if_icmp .ge 26, 3) := by decide +kernel
theorem dX12_classNamed_9 : decode cX12_classNamed 9 = .ok (.aload_n 0, 1) := by decide +kernel
theorem dX12_classNamed_10 : decode cX12_classNamed 10 = .ok (.getfield 13, 3) := by decide +kernel
theorem dX12_classNamed_13 : decode cX12_classNamed 13 = .ok (.iload_n 1, 1) := by decide +kernel
theorem dX12_classNamed_14 : decode cX12_classNamed 14 = .ok (.iload 5, 2) := by decide +kernel
theorem dX12_classNamed_16 : decode cX12_classNamed 16 = .ok (.iadd, 1) := by decide +kernel
theorem dX12_classNamed_17 : decode cX12_classNamed 17 = .ok (.laload, 1) := by decide +kernel
theorem dX12_classNamed_18 : decode cX12_classNamed 18 = .ok (.lload_n 3, 1) := by decide +kernel
theorem dX12_classNamed_19 : decode cX12_classNamed 19 = .ok (.lcmp, 1) := by decide +kernel
theorem dX12_classNamed_20 : decode cX12_classNamed 20 = .ok (.ifCond .ne 6, 3) := by decide +kernel
theorem dX12_classNamed_23 : decode cX12_classNamed 23 = .ok (.iload 5, 2) := by decide +kernel
theorem dX12_classNamed_25 : decode cX12_classNamed 25 = .ok (.ireturn, 1) := by decide +kernel
theorem dX12_classNamed_26 : decode cX12_classNamed 26 = .ok (.iinc 5 1, 3) := by decide +kernel
theorem dX12_classNamed_29 : decode cX12_classNamed 29 = .ok (.goto (-26), 3) := by decide +kernel
theorem dX12_classNamed_32 : decode cX12_classNamed 32 = .ok (.iconst (-1), 1) := by decide +kernel
theorem dX12_classNamed_33 : decode cX12_classNamed 33 = .ok (.ireturn, 1) := by decide +kernel
theorem dX12_memberNamed_0 : decode cX12_memberNamed 0 = .ok (.iconst 0, 1) := by decide +kernel
theorem dX12_memberNamed_1 : decode cX12_memberNamed 1 = .ok (.istore 4, 2) := by decide +kernel
theorem dX12_memberNamed_3 : decode cX12_memberNamed 3 = .ok (.iload 4, 2) := by decide +kernel
theorem dX12_memberNamed_5 : decode cX12_memberNamed 5 = .ok (.aload_n 0, 1) := by decide +kernel
theorem dX12_memberNamed_6 : decode cX12_memberNamed 6 = .ok (.getfield 23, 3) := by decide +kernel
theorem dX12_memberNamed_9 : decode cX12_memberNamed 9 = .ok (.iload_n 1, 1) := by decide +kernel
theorem dX12_memberNamed_10 : decode cX12_memberNamed 10 = .ok (.iaload, 1) := by decide +kernel
theorem dX12_memberNamed_11 : decode cX12_memberNamed 11 = .ok (.if_icmp .ge 29, 3) := by decide +kernel
theorem dX12_memberNamed_14 : decode cX12_memberNamed 14 = .ok (.aload_n 0, 1) := by decide +kernel
theorem dX12_memberNamed_15 : decode cX12_memberNamed 15 = .ok (.getfield 29, 3) := by decide +kernel
theorem dX12_memberNamed_18 : decode cX12_memberNamed 18 = .ok (.bipush 16, 2) := by decide +kernel
theorem dX12_memberNamed_20 : decode cX12_memberNamed 20 = .ok (.iload_n 1, 1) := by decide +kernel
theorem dX12_memberNamed_21 : decode cX12_memberNamed 21 = .ok (.imul, 1) := by decide +kernel
theorem dX12_memberNamed_22 : decode cX12_memberNamed 22 = .ok (.iload 4, 2) := by decide +kernel
theorem dX12_memberNamed_24 : decode cX12_memberNamed 24 = .ok (.iadd, 1) := by decide +kernel
theorem dX12_memberNamed_25 : decode cX12_memberNamed 25 = .ok (.laload, 1) := by decide +kernel
theorem dX12_memberNamed_26 : decode cX12_memberNamed 26 = .ok (.lload_n 2, 1) := by decide +kernel
theorem dX12_memberNamed_27 : decode cX12_memberNamed 27 = .ok (.lcmp, 1) := by decide +kernel
theorem dX12_memberNamed_28 : decode cX12_memberNamed 28 = .ok (.ifCond .ne 6, 3) := by decide +kernel
theorem dX12_memberNamed_31 : decode cX12_memberNamed 31 = .ok (.iload 4, 2) := by decide +kernel
theorem dX12_memberNamed_33 : decode cX12_memberNamed 33 = .ok (.ireturn, 1) := by decide +kernel
theorem dX12_memberNamed_34 : decode cX12_memberNamed 34 = .ok (.iinc 4 1, 3) := by decide +kernel
theorem dX12_memberNamed_37 : decode cX12_memberNamed 37 = .ok (.goto (-34), 3) := by decide +kernel
theorem dX12_memberNamed_40 : decode cX12_memberNamed 40 = .ok (.iconst (-1), 1) := by decide +kernel
theorem dX12_memberNamed_41 : decode cX12_memberNamed 41 = .ok (.ireturn, 1) := by decide +kernel
theorem dX12_isA_0 : decode cX12_isA 0 = .ok (.iload_n 2, 1) := by decide +kernel
theorem dX12_isA_1 : decode cX12_isA 1 = .ok (.istore 4, 2) := by decide +kernel
theorem dX12_isA_3 : decode cX12_isA 3 = .ok (.iload 4, 2) := by decide +kernel
theorem dX12_isA_5 : decode cX12_isA 5 = .ok (.ifCond .lt 23, 3) := by decide +kernel
theorem dX12_isA_8 : decode cX12_isA 8 = .ok (.iload 4, 2) := by decide +kernel
theorem dX12_isA_10 : decode cX12_isA 10 = .ok (.iload_n 3, 1) := by decide +kernel
theorem dX12_isA_11 : decode cX12_isA 11 = .ok (.if_icmp .eq 17, 3) := by decide +kernel
theorem dX12_isA_14 : decode cX12_isA 14 = .ok (.aload_n 0, 1) := by decide +kernel
theorem dX12_isA_15 : decode cX12_isA 15 = .ok (.getfield 17, 3) := by decide +kernel
theorem dX12_isA_18 : decode cX12_isA 18 = .ok (.iload_n 1, 1) := by decide +kernel
theorem dX12_isA_19 : decode cX12_isA 19 = .ok (.iload 4, 2) := by decide +kernel
theorem dX12_isA_21 : decode cX12_isA 21 = .ok (.iadd, 1) := by decide +kernel
theorem dX12_isA_22 : decode cX12_isA 22 = .ok (.iaload, 1) := by decide +kernel
theorem dX12_isA_23 : decode cX12_isA 23 = .ok (.istore 4, 2) := by decide +kernel
theorem dX12_isA_25 : decode cX12_isA 25 = .ok (.goto (-22), 3) := by decide +kernel
theorem dX12_isA_28 : decode cX12_isA 28 = .ok (.iload 4, 2) := by decide +kernel
theorem dX12_isA_30 : decode cX12_isA 30 = .ok (.iload_n 3, 1) := by decide +kernel
theorem dX12_isA_31 : decode cX12_isA 31 = .ok (.if_icmp .ne 7, 3) := by decide +kernel
theorem dX12_isA_34 : decode cX12_isA 34 = .ok (.iconst 1, 1) := by decide +kernel
theorem dX12_isA_35 : decode cX12_isA 35 = .ok (.goto 4, 3) := by decide +kernel
theorem dX12_isA_38 : decode cX12_isA 38 = .ok (.iconst 0, 1) := by decide +kernel
theorem dX12_isA_39 : decode cX12_isA 39 = .ok (.ireturn, 1) := by decide +kernel
theorem dX12_readClasses_0 : decode cX12_readClasses 0 = .ok (.aload_n 0, 1) := by decide +kernel
theorem dX12_readClasses_1 : decode cX12_readClasses 1 = .ok (.bipush 13, 2) := by decide +kernel
theorem dX12_readClasses_3 : decode cX12_readClasses 3 = .ok (.putfield 288, 3) := by decide +kernel
theorem dX12_readClasses_6 : decode cX12_readClasses 6 = .ok (.aload_n 0, 1) := by decide +kernel
theorem dX12_readClasses_7 : decode cX12_readClasses 7 = .ok (.iconst 0, 1) := by decide +kernel
theorem dX12_readClasses_8 : decode cX12_readClasses 8 = .ok (.putfield 291, 3) := by decide +kernel
theorem dX12_readClasses_11 : decode cX12_readClasses 11 = .ok (.aload_n 0, 1) := by decide +kernel
theorem dX12_readClasses_12 : decode cX12_readClasses 12 = .ok (.sipush 1600, 3) := by decide +kernel
theorem dX12_readClasses_15 : decode cX12_readClasses 15 = .ok (.putfield 294, 3) := by decide +kernel
theorem dX12_readClasses_18 : decode cX12_readClasses 18 = .ok (.aload_n 0, 1) := by decide +kernel
theorem dX12_readClasses_19 : decode cX12_readClasses 19 = .ok (.iconst 0, 1) := by decide +kernel
theorem dX12_readClasses_20 : decode cX12_readClasses 20 = .ok (.putfield 226, 3) := by decide +kernel
theorem dX12_readClasses_23 : decode cX12_readClasses 23 = .ok (.aload_n 0, 1) := by decide +kernel
theorem dX12_readClasses_24 : decode cX12_readClasses 24 = .ok (.invokevirtual 271, 3) := by decide +kernel
theorem dX12_readClasses_27 : decode cX12_readClasses 27 = .ok (.aload_n 0, 1) := by decide +kernel
theorem dX12_readClasses_28 : decode cX12_readClasses 28 = .ok (.getfield 243, 3) := by decide +kernel
theorem dX12_readClasses_31 : decode cX12_readClasses 31 = .ok (.ifCond .eq 20, 3) := by decide +kernel
theorem dX12_readClasses_34 : decode cX12_readClasses 34 = .ok (.aload_n 0, 1) := by decide +kernel
theorem dX12_readClasses_35 : decode cX12_readClasses 35 = .ok (.iconst 0, 1) := by decide +kernel
theorem dX12_readClasses_36 : decode cX12_readClasses 36 = .ok (.invokevirtual 297, 3) := by decide +kernel
theorem dX12_readClasses_39 : decode cX12_readClasses 39 = .ok (.ifCond .eq 10, 3) := by decide +kernel
theorem dX12_readClasses_42 : decode cX12_readClasses 42 = .ok (.aload_n 0, 1) := by decide +kernel
theorem dX12_readClasses_43 : decode cX12_readClasses 43 = .ok (.invokevirtual 300, 3) := by decide +kernel
theorem dX12_readClasses_46 : decode cX12_readClasses 46 = .ok (.ifCond .ne (-19), 3) := by decide +kernel
theorem dX12_readClasses_49 : decode cX12_readClasses 49 = .ok (.iconst 0, 1) := by decide +kernel
theorem dX12_readClasses_50 : decode cX12_readClasses 50 = .ok (.ireturn, 1) := by decide +kernel
theorem dX12_readClasses_51 : decode cX12_readClasses 51 = .ok (.bipush 13, 2) := by decide +kernel
theorem dX12_readClasses_53 : decode cX12_readClasses 53 = .ok (.istore_n 1, 1) := by decide +kernel
theorem dX12_readClasses_54 : decode cX12_readClasses 54 = .ok (.iload_n 1, 1) := by decide +kernel
theorem dX12_readClasses_55 : decode cX12_readClasses 55 = .ok (.bipush 13, 2) := by decide +kernel
theorem dX12_readClasses_57 : decode cX12_readClasses 57 = .ok (.aload_n 0, 1) := by decide +kernel
theorem dX12_readClasses_58 : decode cX12_readClasses 58 = .ok (.getfield 291, 3) := by decide +kernel
theorem dX12_readClasses_61 : decode cX12_readClasses 61 = .ok (.iadd, 1) := by decide +kernel
theorem dX12_readClasses_62 : decode cX12_readClasses 62 = .ok (.if_icmp .ge 82, 3) := by decide +kernel
theorem dX12_readClasses_65 : decode cX12_readClasses 65 = .ok (.iconst 0, 1) := by decide +kernel
theorem dX12_readClasses_66 : decode cX12_readClasses 66 = .ok (.istore_n 2, 1) := by decide +kernel
theorem dX12_readClasses_67 : decode cX12_readClasses 67 = .ok (.iload_n 2, 1) := by decide +kernel
theorem dX12_readClasses_68 : decode cX12_readClasses 68 = .ok (.aload_n 0, 1) := by decide +kernel
theorem dX12_readClasses_69 : decode cX12_readClasses 69 = .ok (.getfield 23, 3) := by decide +kernel
theorem dX12_readClasses_72 : decode cX12_readClasses 72 = .ok (.iload_n 1, 1) := by decide +kernel
theorem dX12_readClasses_73 : decode cX12_readClasses 73 = .ok (.iaload, 1) := by decide +kernel
theorem dX12_readClasses_74 : decode cX12_readClasses 74 = .ok (.if_icmp .ge 64, 3) := by decide +kernel
theorem dX12_readClasses_77 : decode cX12_readClasses 77 = .ok (.bipush 16, 2) := by decide +kernel
theorem dX12_readClasses_79 : decode cX12_readClasses 79 = .ok (.iload_n 1, 1) := by decide +kernel
theorem dX12_readClasses_80 : decode cX12_readClasses 80 = .ok (.imul, 1) := by decide +kernel
theorem dX12_readClasses_81 : decode cX12_readClasses 81 = .ok (.iload_n 2, 1) := by decide +kernel
theorem dX12_readClasses_82 : decode cX12_readClasses 82 = .ok (.iadd, 1) := by decide +kernel
theorem dX12_readClasses_83 : decode cX12_readClasses 83 = .ok (.istore_n 3, 1) := by decide +kernel
theorem dX12_readClasses_84 : decode cX12_readClasses 84 = .ok (.aload_n 0, 1) := by decide +kernel
theorem dX12_readClasses_85 : decode cX12_readClasses 85 = .ok (.getfield 50, 3) := by decide +kernel
theorem dX12_readClasses_88 : decode cX12_readClasses 88 = .ok (.iload_n 3, 1) := by decide +kernel
theorem dX12_readClasses_89 : decode cX12_readClasses 89 = .ok (.iaload, 1) := by decide +kernel
theorem dX12_readClasses_90 : decode cX12_readClasses 90 = .ok (.iload_n 1, 1) := by decide +kernel
theorem dX12_readClasses_91 : decode cX12_readClasses 91 = .ok (.bipush 13, 2) := by decide +kernel
theorem dX12_readClasses_93 : decode cX12_readClasses 93 = .ok (.isub, 1) := by decide +kernel
theorem dX12_readClasses_94 : decode cX12_readClasses 94 = .ok (.if_icmp .ne 38, 3) := by decide +kernel
theorem dX12_readClasses_97 : decode cX12_readClasses 97 = .ok (.aload_n 0, 1) := by decide +kernel
theorem dX12_readClasses_98 : decode cX12_readClasses 98 = .ok (.getfield 32, 3) := by decide +kernel
theorem dX12_readClasses_101 : decode cX12_readClasses 101 = .ok (.iload_n 3, 1) := by decide +kernel
theorem dX12_readClasses_102 : decode cX12_readClasses 102 = .ok (.iaload, 1) := by decide +kernel
theorem dX12_readClasses_103 : decode cX12_readClasses 103 = .ok (.iconst 4, 1) := by decide +kernel
theorem dX12_readClasses_104 : decode cX12_readClasses 104 = .ok (.if_icmp .ge 6, 3) := by decide +kernel
theorem dX12_readClasses_107 : decode cX12_readClasses 107 = .ok (.goto 25, 3) := by decide +kernel
theorem dX12_readClasses_110 : decode cX12_readClasses 110 = .ok (.aload_n 0, 1) := by decide +kernel
theorem dX12_readClasses_111 : decode cX12_readClasses 111 = .ok (.getfield 35, 3) := by decide +kernel
theorem dX12_readClasses_114 : decode cX12_readClasses 114 = .ok (.iload_n 3, 1) := by decide +kernel
theorem dX12_readClasses_115 : decode cX12_readClasses 115 = .ok (.aload_n 0, 1) := by decide +kernel
theorem dX12_readClasses_116 : decode cX12_readClasses 116 = .ok (.bipush 13, 2) := by decide +kernel
theorem dX12_readClasses_118 : decode cX12_readClasses 118 = .ok (.aload_n 0, 1) := by decide +kernel
theorem dX12_readClasses_119 : decode cX12_readClasses 119 = .ok (.getfield 291, 3) := by decide +kernel
theorem dX12_readClasses_122 : decode cX12_readClasses 122 = .ok (.aload_n 0, 1) := by decide +kernel
theorem dX12_readClasses_123 : decode cX12_readClasses 123 = .ok (.getfield 53, 3) := by decide +kernel
theorem dX12_readClasses_126 : decode cX12_readClasses 126 = .ok (.iload_n 3, 1) := by decide +kernel
theorem dX12_readClasses_127 : decode cX12_readClasses 127 = .ok (.laload, 1) := by decide +kernel
theorem dX12_readClasses_128 : decode cX12_readClasses 128 = .ok (.invokevirtual 303, 3) := by decide +kernel
theorem dX12_readClasses_131 : decode cX12_readClasses 131 = .ok (.iastore, 1) := by decide +kernel
theorem dX12_readClasses_132 : decode cX12_readClasses 132 = .ok (.iinc 2 1, 3) := by decide +kernel
theorem dX12_readClasses_135 : decode cX12_readClasses 135 = .ok (.goto (-68), 3) := by decide +kernel
theorem dX12_readClasses_138 : decode cX12_readClasses 138 = .ok (.iinc 1 1, 3) := by decide +kernel
theorem dX12_readClasses_141 : decode cX12_readClasses 141 = .ok (.goto (-87), 3) := by decide +kernel
theorem dX12_readClasses_144 : decode cX12_readClasses 144 = .ok (.bipush 13, 2) := by decide +kernel
theorem dX12_readClasses_146 : decode cX12_readClasses 146 = .ok (.istore_n 1, 1) := by decide +kernel
theorem dX12_readClasses_147 : decode cX12_readClasses 147 = .ok (.iload_n 1, 1) := by decide +kernel
theorem dX12_readClasses_148 : decode cX12_readClasses 148 = .ok (.bipush 13, 2) := by decide +kernel
theorem dX12_readClasses_150 : decode cX12_readClasses 150 = .ok (.aload_n 0, 1) := by decide +kernel
theorem dX12_readClasses_151 : decode cX12_readClasses 151 = .ok (.getfield 291, 3) := by decide +kernel
theorem dX12_readClasses_154 : decode cX12_readClasses 154 = .ok (.iadd, 1) := by decide +kernel
theorem dX12_readClasses_155 : decode cX12_readClasses 155 = .ok (.if_icmp .ge 33, 3) := by decide +kernel
theorem dX12_readClasses_158 : decode cX12_readClasses 158 = .ok (.iconst 0, 1) := by decide +kernel
theorem dX12_readClasses_159 : decode cX12_readClasses 159 = .ok (.istore_n 2, 1) := by decide +kernel
theorem dX12_readClasses_160 : decode cX12_readClasses 160 = .ok (.iload_n 2, 1) := by decide +kernel
theorem dX12_readClasses_161 : decode cX12_readClasses 161 = .ok (.aload_n 0, 1) := by decide +kernel
theorem dX12_readClasses_162 : decode cX12_readClasses 162 = .ok (.getfield 23, 3) := by decide +kernel
theorem dX12_readClasses_165 : decode cX12_readClasses 165 = .ok (.iload_n 1, 1) := by decide +kernel
theorem dX12_readClasses_166 : decode cX12_readClasses 166 = .ok (.iaload, 1) := by decide +kernel
theorem dX12_readClasses_167 : decode cX12_readClasses 167 = .ok (.if_icmp .ge 15, 3) := by decide +kernel
theorem dX12_readClasses_170 : decode cX12_readClasses 170 = .ok (.aload_n 0, 1) := by decide +kernel
theorem dX12_readClasses_171 : decode cX12_readClasses 171 = .ok (.iload_n 1, 1) := by decide +kernel
theorem dX12_readClasses_172 : decode cX12_readClasses 172 = .ok (.iload_n 2, 1) := by decide +kernel
theorem dX12_readClasses_173 : decode cX12_readClasses 173 = .ok (.invokevirtual 307, 3) := by decide +kernel
theorem dX12_readClasses_176 : decode cX12_readClasses 176 = .ok (.iinc 2 1, 3) := by decide +kernel
theorem dX12_readClasses_179 : decode cX12_readClasses 179 = .ok (.goto (-19), 3) := by decide +kernel
theorem dX12_readClasses_182 : decode cX12_readClasses 182 = .ok (.iinc 1 1, 3) := by decide +kernel
theorem dX12_readClasses_185 : decode cX12_readClasses 185 = .ok (.goto (-38), 3) := by decide +kernel
theorem dX12_readClasses_188 : decode cX12_readClasses 188 = .ok (.bipush 13, 2) := by decide +kernel
theorem dX12_readClasses_190 : decode cX12_readClasses 190 = .ok (.istore_n 1, 1) := by decide +kernel
theorem dX12_readClasses_191 : decode cX12_readClasses 191 = .ok (.iload_n 1, 1) := by decide +kernel
theorem dX12_readClasses_192 : decode cX12_readClasses 192 = .ok (.bipush 13, 2) := by decide +kernel
theorem dX12_readClasses_194 : decode cX12_readClasses 194 = .ok (.aload_n 0, 1) := by decide +kernel
theorem dX12_readClasses_195 : decode cX12_readClasses 195 = .ok (.getfield 291, 3) := by decide +kernel
theorem dX12_readClasses_198 : decode cX12_readClasses 198 = .ok (.iadd, 1) := by decide +kernel
theorem dX12_readClasses_199 : decode cX12_readClasses 199 = .ok (.if_icmp .ge 206, 3) := by decide +kernel
theorem dX12_readClasses_202 : decode cX12_readClasses 202 = .ok (.iconst 0, 1) := by decide +kernel
theorem dX12_readClasses_203 : decode cX12_readClasses 203 = .ok (.istore_n 2, 1) := by decide +kernel
theorem dX12_readClasses_204 : decode cX12_readClasses 204 = .ok (.iload_n 2, 1) := by decide +kernel
theorem dX12_readClasses_205 : decode cX12_readClasses 205 = .ok (.aload_n 0, 1) := by decide +kernel
theorem dX12_readClasses_206 : decode cX12_readClasses 206 = .ok (.getfield 23, 3) := by decide +kernel
theorem dX12_readClasses_209 : decode cX12_readClasses 209 = .ok (.iload_n 1, 1) := by decide +kernel
theorem dX12_readClasses_210 : decode cX12_readClasses 210 = .ok (.iaload, 1) := by decide +kernel
theorem dX12_readClasses_211 : decode cX12_readClasses 211 = .ok (.if_icmp .ge 188, 3) := by decide +kernel
theorem dX12_readClasses_214 : decode cX12_readClasses 214 = .ok (.bipush 16, 2) := by decide +kernel
theorem dX12_readClasses_216 : decode cX12_readClasses 216 = .ok (.iload_n 1, 1) := by decide +kernel
theorem dX12_readClasses_217 : decode cX12_readClasses 217 = .ok (.imul, 1) := by decide +kernel
theorem dX12_readClasses_218 : decode cX12_readClasses 218 = .ok (.iload_n 2, 1) := by decide +kernel
theorem dX12_readClasses_219 : decode cX12_readClasses 219 = .ok (.iadd, 1) := by decide +kernel
theorem dX12_readClasses_220 : decode cX12_readClasses 220 = .ok (.istore_n 3, 1) := by decide +kernel
theorem dX12_readClasses_221 : decode cX12_readClasses 221 = .ok (.aload_n 0, 1) := by decide +kernel
theorem dX12_readClasses_222 : decode cX12_readClasses 222 = .ok (.getfield 32, 3) := by decide +kernel
theorem dX12_readClasses_225 : decode cX12_readClasses 225 = .ok (.iload_n 3, 1) := by decide +kernel
theorem dX12_readClasses_226 : decode cX12_readClasses 226 = .ok (.iaload, 1) := by decide +kernel
theorem dX12_readClasses_227 : decode cX12_readClasses 227 = .ok (.iconst 4, 1) := by decide +kernel
theorem dX12_readClasses_228 : decode cX12_readClasses 228 = .ok (.if_icmp .lt 165, 3) := by decide +kernel
theorem dX12_readClasses_231 : decode cX12_readClasses 231 = .ok (.aload_n 0, 1) := by decide +kernel
theorem dX12_readClasses_232 : decode cX12_readClasses 232 = .ok (.getfield 50, 3) := by decide +kernel
theorem dX12_readClasses_235 : decode cX12_readClasses 235 = .ok (.iload_n 3, 1) := by decide +kernel
theorem dX12_readClasses_236 : decode cX12_readClasses 236 = .ok (.iaload, 1) := by decide +kernel
theorem dX12_readClasses_237 : decode cX12_readClasses 237 = .ok (.iload_n 1, 1) := by decide +kernel
theorem dX12_readClasses_238 : decode cX12_readClasses 238 = .ok (.bipush 13, 2) := by decide +kernel
theorem dX12_readClasses_240 : decode cX12_readClasses 240 = .ok (.isub, 1) := by decide +kernel
theorem dX12_readClasses_241 : decode cX12_readClasses 241 = .ok (.if_icmp .eq 6, 3) := by decide +kernel
theorem dX12_readClasses_244 : decode cX12_readClasses 244 = .ok (.goto 149, 3) := by decide +kernel
theorem dX12_readClasses_247 : decode cX12_readClasses 247 = .ok (.aload_n 0, 1) := by decide +kernel
theorem dX12_readClasses_248 : decode cX12_readClasses 248 = .ok (.getfield 35, 3) := by decide +kernel
theorem dX12_readClasses_251 : decode cX12_readClasses 251 = .ok (.iload_n 3, 1) := by decide +kernel
theorem dX12_readClasses_252 : decode cX12_readClasses 252 = .ok (.iaload, 1) := by decide +kernel
theorem dX12_readClasses_253 : decode cX12_readClasses 253 = .ok (.ifCond .ge 19, 3) := by decide +kernel
theorem dX12_readClasses_256 : decode cX12_readClasses 256 = .ok (.aload_n 0, 1) := by decide +kernel
theorem dX12_readClasses_257 : decode cX12_readClasses 257 = .ok (.aload_n 0, 1) := by decide +kernel
theorem dX12_readClasses_258 : decode cX12_readClasses 258 = .ok (.getfield 56, 3) := by decide +kernel
theorem dX12_readClasses_261 : decode cX12_readClasses 261 = .ok (.iload_n 3, 1) := by decide +kernel
theorem dX12_readClasses_262 : decode cX12_readClasses 262 = .ok (.iaload, 1) := by decide +kernel
theorem dX12_readClasses_263 : decode cX12_readClasses 263 = .ok (.putfield 237, 3) := by decide +kernel
theorem dX12_readClasses_266 : decode cX12_readClasses 266 = .ok (.aload_n 0, 1) := by decide +kernel
theorem dX12_readClasses_267 : decode cX12_readClasses 267 = .ok (.iconst 5, 1) := by decide +kernel
theorem dX12_readClasses_268 : decode cX12_readClasses 268 = .ok (.invokevirtual 261, 3) := by decide +kernel
theorem dX12_readClasses_271 : decode cX12_readClasses 271 = .ok (.ireturn, 1) := by decide +kernel
theorem dX12_readClasses_272 : decode cX12_readClasses 272 = .ok (.aload_n 0, 1) := by decide +kernel
theorem dX12_readClasses_273 : decode cX12_readClasses 273 = .ok (.getfield 32, 3) := by decide +kernel
theorem dX12_readClasses_276 : decode cX12_readClasses 276 = .ok (.iload_n 3, 1) := by decide +kernel
theorem dX12_readClasses_277 : decode cX12_readClasses 277 = .ok (.iaload, 1) := by decide +kernel
theorem dX12_readClasses_278 : decode cX12_readClasses 278 = .ok (.iconst 4, 1) := by decide +kernel
theorem dX12_readClasses_279 : decode cX12_readClasses 279 = .ok (.if_icmp .ne 6, 3) := by decide +kernel
theorem dX12_readClasses_282 : decode cX12_readClasses 282 = .ok (.goto 111, 3) := by decide +kernel
theorem dX12_readClasses_285 : decode cX12_readClasses 285 = .ok (.aload_n 0, 1) := by decide +kernel
theorem dX12_readClasses_286 : decode cX12_readClasses 286 = .ok (.bipush 13, 2) := by decide +kernel
theorem dX12_readClasses_288 : decode cX12_readClasses 288 = .ok (.aload_n 0, 1) := by decide +kernel
theorem dX12_readClasses_289 : decode cX12_readClasses 289 = .ok (.getfield 35, 3) := by decide +kernel
theorem dX12_readClasses_292 : decode cX12_readClasses 292 = .ok (.iload_n 3, 1) := by decide +kernel
theorem dX12_readClasses_293 : decode cX12_readClasses 293 = .ok (.iaload, 1) := by decide +kernel
theorem dX12_readClasses_294 : decode cX12_readClasses 294 = .ok (.iadd, 1) := by decide +kernel
theorem dX12_readClasses_295 : decode cX12_readClasses 295 = .ok (.aload_n 0, 1) := by decide +kernel
theorem dX12_readClasses_296 : decode cX12_readClasses 296 = .ok (.getfield 59, 3) := by decide +kernel
theorem dX12_readClasses_299 : decode cX12_readClasses 299 = .ok (.iload_n 3, 1) := by decide +kernel
theorem dX12_readClasses_300 : decode cX12_readClasses 300 = .ok (.laload, 1) := by decide +kernel
theorem dX12_readClasses_301 : decode cX12_readClasses 301 = .ok (.invokevirtual 311, 3) := by decide +kernel
theorem dX12_readClasses_304 : decode cX12_readClasses 304 = .ok (.istore 4, 2) := by decide +kernel
theorem dX12_readClasses_306 : decode cX12_readClasses 306 = .ok (.bipush 16, 2) := by decide +kernel
theorem dX12_readClasses_308 : decode cX12_readClasses 308 = .ok (.bipush 13, 2) := by decide +kernel
theorem dX12_readClasses_310 : decode cX12_readClasses 310 = .ok (.aload_n 0, 1) := by decide +kernel
theorem dX12_readClasses_311 : decode cX12_readClasses 311 = .ok (.getfield 35, 3) := by decide +kernel
theorem dX12_readClasses_314 : decode cX12_readClasses 314 = .ok (.iload_n 3, 1) := by decide +kernel
theorem dX12_readClasses_315 : decode cX12_readClasses 315 = .ok (.iaload, 1) := by decide +kernel
theorem dX12_readClasses_316 : decode cX12_readClasses 316 = .ok (.iadd, 1) := by decide +kernel
theorem dX12_readClasses_317 : decode cX12_readClasses 317 = .ok (.imul, 1) := by decide +kernel
theorem dX12_readClasses_318 : decode cX12_readClasses 318 = .ok (.iload 4, 2) := by decide +kernel
theorem dX12_readClasses_320 : decode cX12_readClasses 320 = .ok (.iadd, 1) := by decide +kernel
theorem dX12_readClasses_321 : decode cX12_readClasses 321 = .ok (.istore 5, 2) := by decide +kernel
theorem dX12_readClasses_323 : decode cX12_readClasses 323 = .ok (.iload 4, 2) := by decide +kernel
theorem dX12_readClasses_325 : decode cX12_readClasses 325 = .ok (.ifCond .lt 44, 3) := by decide +kernel
theorem dX12_readClasses_328 : decode cX12_readClasses 328 = .ok (.aload_n 0, 1) := by decide +kernel
theorem dX12_readClasses_329 : decode cX12_readClasses 329 = .ok (.getfield 32, 3) := by decide +kernel
theorem dX12_readClasses_332 : decode cX12_readClasses 332 = .ok (.iload 5, 2) := by decide +kernel
theorem dX12_readClasses_334 : decode cX12_readClasses 334 = .ok (.iaload, 1) := by decide +kernel
theorem dX12_readClasses_335 : decode cX12_readClasses 335 = .ok (.iconst 4, 1) := by decide +kernel
theorem dX12_readClasses_336 : decode cX12_readClasses 336 = .ok (.if_icmp .ne 33, 3) := by decide +kernel
theorem dX12_readClasses_339 : decode cX12_readClasses 339 = .ok (.aload_n 0, 1) := by decide +kernel
theorem dX12_readClasses_340 : decode cX12_readClasses 340 = .ok (.getfield 35, 3) := by decide +kernel
theorem dX12_readClasses_343 : decode cX12_readClasses 343 = .ok (.iload 5, 2) := by decide +kernel
theorem dX12_readClasses_345 : decode cX12_readClasses 345 = .ok (.iaload, 1) := by decide +kernel
theorem dX12_readClasses_346 : decode cX12_readClasses 346 = .ok (.ifCond .lt 23, 3) := by decide +kernel
theorem dX12_readClasses_349 : decode cX12_readClasses 349 = .ok (.aload_n 0, 1) := by decide +kernel
theorem dX12_readClasses_350 : decode cX12_readClasses 350 = .ok (.bipush 13, 2) := by decide +kernel
theorem dX12_readClasses_352 : decode cX12_readClasses 352 = .ok (.iload_n 1, 1) := by decide +kernel
theorem dX12_readClasses_353 : decode cX12_readClasses 353 = .ok (.bipush 13, 2) := by decide +kernel
theorem dX12_readClasses_355 : decode cX12_readClasses 355 = .ok (.isub, 1) := by decide +kernel
theorem dX12_readClasses_356 : decode cX12_readClasses 356 = .ok (.aload_n 0, 1) := by decide +kernel
theorem dX12_readClasses_357 : decode cX12_readClasses 357 = .ok (.getfield 35, 3) := by decide +kernel
theorem dX12_readClasses_360 : decode cX12_readClasses 360 = .ok (.iload 5, 2) := by decide +kernel
theorem dX12_readClasses_362 : decode cX12_readClasses 362 = .ok (.iaload, 1) := by decide +kernel
theorem dX12_readClasses_363 : decode cX12_readClasses 363 = .ok (.invokevirtual 315, 3) := by decide +kernel
theorem dX12_readClasses_366 : decode cX12_readClasses 366 = .ok (.ifCond .ne 19, 3) := by decide +kernel
theorem dX12_readClasses_369 : decode cX12_readClasses 369 = .ok (.aload_n 0, 1) := by decide +kernel
theorem dX12_readClasses_370 : decode cX12_readClasses 370 = .ok (.aload_n 0, 1) := by decide +kernel
theorem dX12_readClasses_371 : decode cX12_readClasses 371 = .ok (.getfield 62, 3) := by decide +kernel
theorem dX12_readClasses_374 : decode cX12_readClasses 374 = .ok (.iload_n 3, 1) := by decide +kernel
theorem dX12_readClasses_375 : decode cX12_readClasses 375 = .ok (.iaload, 1) := by decide +kernel
theorem dX12_readClasses_376 : decode cX12_readClasses 376 = .ok (.putfield 237, 3) := by decide +kernel
theorem dX12_readClasses_379 : decode cX12_readClasses 379 = .ok (.aload_n 0, 1) := by decide +kernel
theorem dX12_readClasses_380 : decode cX12_readClasses 380 = .ok (.iconst 5, 1) := by decide +kernel
theorem dX12_readClasses_381 : decode cX12_readClasses 381 = .ok (.invokevirtual 261, 3) := by decide +kernel
theorem dX12_readClasses_384 : decode cX12_readClasses 384 = .ok (.ireturn, 1) := by decide +kernel
theorem dX12_readClasses_385 : decode cX12_readClasses 385 = .ok (.aload_n 0, 1) := by decide +kernel
theorem dX12_readClasses_386 : decode cX12_readClasses 386 = .ok (.getfield 47, 3) := by decide +kernel
theorem dX12_readClasses_389 : decode cX12_readClasses 389 = .ok (.iload_n 3, 1) := by decide +kernel
theorem dX12_readClasses_390 : decode cX12_readClasses 390 = .ok (.iload 4, 2) := by decide +kernel
theorem dX12_readClasses_392 : decode cX12_readClasses 392 = .ok (.iastore, 1) := by decide +kernel
theorem dX12_readClasses_393 : decode cX12_readClasses 393 = .ok (.iinc 2 1, 3) := by decide +kernel
theorem dX12_readClasses_396 : decode cX12_readClasses 396 = .ok (.goto (-192), 3) := by decide +kernel
theorem dX12_readClasses_399 : decode cX12_readClasses 399 = .ok (.iinc 1 1, 3) := by decide +kernel
theorem dX12_readClasses_402 : decode cX12_readClasses 402 = .ok (.goto (-211), 3) := by decide +kernel
theorem dX12_readClasses_405 : decode cX12_readClasses 405 = .ok (.bipush 13, 2) := by decide +kernel
theorem dX12_readClasses_407 : decode cX12_readClasses 407 = .ok (.istore_n 1, 1) := by decide +kernel
theorem dX12_readClasses_408 : decode cX12_readClasses 408 = .ok (.iload_n 1, 1) := by decide +kernel
theorem dX12_readClasses_409 : decode cX12_readClasses 409 = .ok (.bipush 13, 2) := by decide +kernel
theorem dX12_readClasses_411 : decode cX12_readClasses 411 = .ok (.aload_n 0, 1) := by decide +kernel
theorem dX12_readClasses_412 : decode cX12_readClasses 412 = .ok (.getfield 291, 3) := by decide +kernel
theorem dX12_readClasses_415 : decode cX12_readClasses 415 = .ok (.iadd, 1) := by decide +kernel
theorem dX12_readClasses_416 : decode cX12_readClasses 416 = .ok (.if_icmp .ge 33, 3) := by decide +kernel
theorem dX12_readClasses_419 : decode cX12_readClasses 419 = .ok (.iconst 0, 1) := by decide +kernel
theorem dX12_readClasses_420 : decode cX12_readClasses 420 = .ok (.istore_n 2, 1) := by decide +kernel
theorem dX12_readClasses_421 : decode cX12_readClasses 421 = .ok (.iload_n 2, 1) := by decide +kernel
theorem dX12_readClasses_422 : decode cX12_readClasses 422 = .ok (.aload_n 0, 1) := by decide +kernel
theorem dX12_readClasses_423 : decode cX12_readClasses 423 = .ok (.getfield 23, 3) := by decide +kernel
theorem dX12_readClasses_426 : decode cX12_readClasses 426 = .ok (.iload_n 1, 1) := by decide +kernel
theorem dX12_readClasses_427 : decode cX12_readClasses 427 = .ok (.iaload, 1) := by decide +kernel
theorem dX12_readClasses_428 : decode cX12_readClasses 428 = .ok (.if_icmp .ge 15, 3) := by decide +kernel
theorem dX12_readClasses_431 : decode cX12_readClasses 431 = .ok (.aload_n 0, 1) := by decide +kernel
theorem dX12_readClasses_432 : decode cX12_readClasses 432 = .ok (.iload_n 1, 1) := by decide +kernel
theorem dX12_readClasses_433 : decode cX12_readClasses 433 = .ok (.iload_n 2, 1) := by decide +kernel
theorem dX12_readClasses_434 : decode cX12_readClasses 434 = .ok (.invokevirtual 307, 3) := by decide +kernel
theorem dX12_readClasses_437 : decode cX12_readClasses 437 = .ok (.iinc 2 1, 3) := by decide +kernel
theorem dX12_readClasses_440 : decode cX12_readClasses 440 = .ok (.goto (-19), 3) := by decide +kernel
theorem dX12_readClasses_443 : decode cX12_readClasses 443 = .ok (.iinc 1 1, 3) := by decide +kernel
theorem dX12_readClasses_446 : decode cX12_readClasses 446 = .ok (.goto (-38), 3) := by decide +kernel
theorem dX12_readClasses_449 : decode cX12_readClasses 449 = .ok (.iconst 1, 1) := by decide +kernel
theorem dX12_readClasses_450 : decode cX12_readClasses 450 = .ok (.ireturn, 1) := by decide +kernel
theorem dX12_copyMeant_0 : decode cX12_copyMeant 0 = .ok (.bipush 16, 2) := by decide +kernel
theorem dX12_copyMeant_2 : decode cX12_copyMeant 2 = .ok (.iload_n 1, 1) := by decide +kernel
theorem dX12_copyMeant_3 : decode cX12_copyMeant 3 = .ok (.imul, 1) := by decide +kernel
theorem dX12_copyMeant_4 : decode cX12_copyMeant 4 = .ok (.iload_n 2, 1) := by decide +kernel
theorem dX12_copyMeant_5 : decode cX12_copyMeant 5 = .ok (.iadd, 1) := by decide +kernel
theorem dX12_copyMeant_6 : decode cX12_copyMeant 6 = .ok (.istore_n 3, 1) := by decide +kernel
theorem dX12_copyMeant_7 : decode cX12_copyMeant 7 = .ok (.bipush 16, 2) := by decide +kernel
theorem dX12_copyMeant_9 : decode cX12_copyMeant 9 = .ok (.bipush 13, 2) := by decide +kernel
theorem dX12_copyMeant_11 : decode cX12_copyMeant 11 = .ok (.aload_n 0, 1) := by decide +kernel
theorem dX12_copyMeant_12 : decode cX12_copyMeant 12 = .ok (.getfield 50, 3) := by decide +kernel
theorem dX12_copyMeant_15 : decode cX12_copyMeant 15 = .ok (.iload_n 3, 1) := by decide +kernel
theorem dX12_copyMeant_16 : decode cX12_copyMeant 16 = .ok (.iaload, 1) := by decide +kernel
theorem dX12_copyMeant_17 : decode cX12_copyMeant 17 = .ok (.iadd, 1) := by decide +kernel
theorem dX12_copyMeant_18 : decode cX12_copyMeant 18 = .ok (.imul, 1) := by decide +kernel
theorem dX12_copyMeant_19 : decode cX12_copyMeant 19 = .ok (.iload_n 2, 1) := by decide +kernel
theorem dX12_copyMeant_20 : decode cX12_copyMeant 20 = .ok (.iadd, 1) := by decide +kernel
theorem dX12_copyMeant_21 : decode cX12_copyMeant 21 = .ok (.istore 4, 2) := by decide +kernel
theorem dX12_copyMeant_23 : decode cX12_copyMeant 23 = .ok (.aload_n 0, 1) := by decide +kernel
theorem dX12_copyMeant_24 : decode cX12_copyMeant 24 = .ok (.getfield 35, 3) := by decide +kernel
