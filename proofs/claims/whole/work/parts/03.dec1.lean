theorem dX5_refusalAt_27 : decode cX5_refusalAt 27 = .ok (.iload_n 1, 1) := by decide +kernel
theorem dX5_refusalAt_28 : decode cX5_refusalAt 28 = .ok (.aload_n 0, 1) := by decide +kernel
theorem dX5_refusalAt_29 : decode cX5_refusalAt 29 = .ok (.getfield 22, 3) := by decide +kernel
theorem dX5_refusalAt_32 : decode cX5_refusalAt 32 = .ok (.if_icmp .lt 8, 3) := by decide +kernel
theorem dX5_refusalAt_35 : decode cX5_refusalAt 35 = .ok (.bipush (-13), 2) := by decide +kernel
theorem dX5_refusalAt_37 : decode cX5_refusalAt 37 = .ok (.goto 4, 3) := by decide +kernel
theorem dX5_refusalAt_40 : decode cX5_refusalAt 40 = .ok (.iconst 0, 1) := by decide +kernel
theorem dX5_refusalAt_41 : decode cX5_refusalAt 41 = .ok (.ireturn, 1) := by decide +kernel
theorem dX5_hasRun_0 : decode cX5_hasRun 0 = .ok (.iload_n 2, 1) := by decide +kernel
theorem dX5_hasRun_1 : decode cX5_hasRun 1 = .ok (.ifCond .lt 29, 3) := by decide +kernel
theorem dX5_hasRun_4 : decode cX5_hasRun 4 = .ok (.iload_n 2, 1) := by decide +kernel
theorem dX5_hasRun_5 : decode cX5_hasRun 5 = .ok (.aload_n 0, 1) := by decide +kernel
theorem dX5_hasRun_6 : decode cX5_hasRun 6 = .ok (.getfield 22, 3) := by decide +kernel
theorem dX5_hasRun_9 : decode cX5_hasRun 9 = .ok (.if_icmp .gt 21, 3) := by decide +kernel
theorem dX5_hasRun_12 : decode cX5_hasRun 12 = .ok (.iload_n 1, 1) := by decide +kernel
theorem dX5_hasRun_13 : decode cX5_hasRun 13 = .ok (.ifCond .lt 17, 3) := by decide +kernel
theorem dX5_hasRun_16 : decode cX5_hasRun 16 = .ok (.iload_n 1, 1) := by decide +kernel
theorem dX5_hasRun_17 : decode cX5_hasRun 17 = .ok (.aload_n 0, 1) := by decide +kernel
theorem dX5_hasRun_18 : decode cX5_hasRun 18 = .ok (.getfield 22, 3) := by decide +kernel
theorem dX5_hasRun_21 : decode cX5_hasRun 21 = .ok (.iload_n 2, 1) := by decide +kernel
theorem dX5_hasRun_22 : decode cX5_hasRun 22 = .ok (.isub, 1) := by decide +kernel
theorem dX5_hasRun_23 : decode cX5_hasRun 23 = .ok (.if_icmp .gt 7, 3) := by decide +kernel
theorem dX5_hasRun_26 : decode cX5_hasRun 26 = .ok (.iconst 1, 1) := by decide +kernel
theorem dX5_hasRun_27 : decode cX5_hasRun 27 = .ok (.goto 4, 3) := by decide +kernel
theorem dX5_hasRun_30 : decode cX5_hasRun 30 = .ok (.iconst 0, 1) := by decide +kernel
theorem dX5_hasRun_31 : decode cX5_hasRun 31 = .ok (.ireturn, 1) := by decide +kernel
theorem dX5_store_0 : decode cX5_store 0 = .ok (.aload_n 0, 1) := by decide +kernel
theorem dX5_store_1 : decode cX5_store 1 = .ok (.getfield 9, 3) := by decide +kernel
theorem dX5_store_4 : decode cX5_store 4 = .ok (.tableswitch 80 0 3 #[32, 45, 58, 70], 32) := by decide +kernel
theorem dX5_store_36 : decode cX5_store 36 = .ok (.aload_n 0, 1) := by decide +kernel
theorem dX5_store_37 : decode cX5_store 37 = .ok (.getfield 18, 3) := by decide +kernel
theorem dX5_store_40 : decode cX5_store 40 = .ok (.iload_n 1, 1) := by decide +kernel
theorem dX5_store_41 : decode cX5_store 41 = .ok (.lload_n 2, 1) := by decide +kernel
theorem dX5_store_42 : decode cX5_store 42 = .ok (.l2i, 1) := by decide +kernel
theorem dX5_store_43 : decode cX5_store 43 = .ok (.i2b, 1) := by decide +kernel
theorem dX5_store_44 : decode cX5_store 44 = .ok (.i2l, 1) := by decide +kernel
theorem dX5_store_45 : decode cX5_store 45 = .ok (.lastore, 1) := by decide +kernel
theorem dX5_store_46 : decode cX5_store 46 = .ok (.goto 55, 3) := by decide +kernel
theorem dX5_store_49 : decode cX5_store 49 = .ok (.aload_n 0, 1) := by decide +kernel
theorem dX5_store_50 : decode cX5_store 50 = .ok (.getfield 18, 3) := by decide +kernel
theorem dX5_store_53 : decode cX5_store 53 = .ok (.iload_n 1, 1) := by decide +kernel
theorem dX5_store_54 : decode cX5_store 54 = .ok (.lload_n 2, 1) := by decide +kernel
theorem dX5_store_55 : decode cX5_store 55 = .ok (.l2i, 1) := by decide +kernel
theorem dX5_store_56 : decode cX5_store 56 = .ok (.i2s, 1) := by decide +kernel
theorem dX5_store_57 : decode cX5_store 57 = .ok (.i2l, 1) := by decide +kernel
theorem dX5_store_58 : decode cX5_store 58 = .ok (.lastore, 1) := by decide +kernel
theorem dX5_store_59 : decode cX5_store 59 = .ok (.goto 42, 3) := by decide +kernel
theorem dX5_store_62 : decode cX5_store 62 = .ok (.aload_n 0, 1) := by decide +kernel
theorem dX5_store_63 : decode cX5_store 63 = .ok (.getfield 18, 3) := by decide +kernel
theorem dX5_store_66 : decode cX5_store 66 = .ok (.iload_n 1, 1) := by decide +kernel
theorem dX5_store_67 : decode cX5_store 67 = .ok (.lload_n 2, 1) := by decide +kernel
theorem dX5_store_68 : decode cX5_store 68 = .ok (.l2i, 1) := by decide +kernel
theorem dX5_store_69 : decode cX5_store 69 = .ok (.i2l, 1) := by decide +kernel
theorem dX5_store_70 : decode cX5_store 70 = .ok (.lastore, 1) := by decide +kernel
theorem dX5_store_71 : decode cX5_store 71 = .ok (.goto 30, 3) := by decide +kernel
theorem dX5_store_74 : decode cX5_store 74 = .ok (.aload_n 0, 1) := by decide +kernel
theorem dX5_store_75 : decode cX5_store 75 = .ok (.getfield 18, 3) := by decide +kernel
theorem dX5_store_78 : decode cX5_store 78 = .ok (.iload_n 1, 1) := by decide +kernel
theorem dX5_store_79 : decode cX5_store 79 = .ok (.lload_n 2, 1) := by decide +kernel
theorem dX5_store_80 : decode cX5_store 80 = .ok (.lastore, 1) := by decide +kernel
theorem dX5_store_81 : decode cX5_store 81 = .ok (.goto 20, 3) := by decide +kernel
theorem dX5_store_84 : decode cX5_store 84 = .ok (.aload_n 0, 1) := by decide +kernel
theorem dX5_store_85 : decode cX5_store 85 = .ok (.getfield 18, 3) := by decide +kernel
theorem dX5_store_88 : decode cX5_store 88 = .ok (.iload_n 1, 1) := by decide +kernel
theorem dX5_store_89 : decode cX5_store 89 = .ok (.lload_n 2, 1) := by decide +kernel
theorem dX5_store_90 : decode cX5_store 90 = .ok (.lconst 0, 1) := by decide +kernel
theorem dX5_store_91 : decode cX5_store 91 = .ok (.lcmp, 1) := by decide +kernel
theorem dX5_store_92 : decode cX5_store 92 = .ok (.ifCond .eq 7, 3) := by decide +kernel
theorem dX5_store_95 : decode cX5_store 95 = .ok (.lconst 1, 1) := by decide +kernel
theorem dX5_store_96 : decode cX5_store 96 = .ok (.goto 4, 3) := by decide +kernel
theorem dX5_store_99 : decode cX5_store 99 = .ok (.lconst 0, 1) := by decide +kernel
theorem dX5_store_100 : decode cX5_store 100 = .ok (.lastore, 1) := by decide +kernel
theorem dX5_store_101 : decode cX5_store 101 = .ok (.return_, 1) := by decide +kernel
theorem dX6_init_0 : decode cX6_init 0 = .ok (.aload_n 0, 1) := by decide +kernel
theorem dX6_init_1 : decode cX6_init 1 = .ok (.invokespecial 3, 3) := by decide +kernel
theorem dX6_init_4 : decode cX6_init 4 = .ok (.aload_n 0, 1) := by decide +kernel
theorem dX6_init_5 : decode cX6_init 5 = .ok (.bipush 10, 2) := by decide +kernel
theorem dX6_init_7 : decode cX6_init 7 = .ok (.newarray .int, 2) := by decide +kernel
theorem dX6_init_9 : decode cX6_init 9 = .ok (.putfield 9, 3) := by decide +kernel
theorem dX6_init_12 : decode cX6_init 12 = .ok (.aload_n 0, 1) := by decide +kernel
theorem dX6_init_13 : decode cX6_init 13 = .ok (.bipush 10, 2) := by decide +kernel
theorem dX6_init_15 : decode cX6_init 15 = .ok (.newarray .int, 2) := by decide +kernel
theorem dX6_init_17 : decode cX6_init 17 = .ok (.putfield 15, 3) := by decide +kernel
theorem dX6_init_20 : decode cX6_init 20 = .ok (.aload_n 0, 1) := by decide +kernel
theorem dX6_init_21 : decode cX6_init 21 = .ok (.bipush 10, 2) := by decide +kernel
theorem dX6_init_23 : decode cX6_init 23 = .ok (.newarray .int, 2) := by decide +kernel
theorem dX6_init_25 : decode cX6_init 25 = .ok (.putfield 18, 3) := by decide +kernel
theorem dX6_init_28 : decode cX6_init 28 = .ok (.aload_n 0, 1) := by decide +kernel
theorem dX6_init_29 : decode cX6_init 29 = .ok (.bipush 10, 2) := by decide +kernel
theorem dX6_init_31 : decode cX6_init 31 = .ok (.newarray .int, 2) := by decide +kernel
theorem dX6_init_33 : decode cX6_init 33 = .ok (.putfield 21, 3) := by decide +kernel
theorem dX6_init_36 : decode cX6_init 36 = .ok (.aload_n 0, 1) := by decide +kernel
theorem dX6_init_37 : decode cX6_init 37 = .ok (.bipush 6, 2) := by decide +kernel
theorem dX6_init_39 : decode cX6_init 39 = .ok (.newarray .int, 2) := by decide +kernel
theorem dX6_init_41 : decode cX6_init 41 = .ok (.putfield 24, 3) := by decide +kernel
theorem dX6_init_44 : decode cX6_init 44 = .ok (.aload_n 0, 1) := by decide +kernel
theorem dX6_init_45 : decode cX6_init 45 = .ok (.bipush 6, 2) := by decide +kernel
theorem dX6_init_47 : decode cX6_init 47 = .ok (.newarray .int, 2) := by decide +kernel
theorem dX6_init_49 : decode cX6_init 49 = .ok (.putfield 27, 3) := by decide +kernel
theorem dX6_init_52 : decode cX6_init 52 = .ok (.aload_n 0, 1) := by decide +kernel
theorem dX6_init_53 : decode cX6_init 53 = .ok (.bipush 20, 2) := by decide +kernel
theorem dX6_init_55 : decode cX6_init 55 = .ok (.newarray .int, 2) := by decide +kernel
theorem dX6_init_57 : decode cX6_init 57 = .ok (.putfield 30, 3) := by decide +kernel
theorem dX6_init_60 : decode cX6_init 60 = .ok (.aload_n 0, 1) := by decide +kernel
theorem dX6_init_61 : decode cX6_init 61 = .ok (.bipush 20, 2) := by decide +kernel
theorem dX6_init_63 : decode cX6_init 63 = .ok (.newarray .int, 2) := by decide +kernel
theorem dX6_init_65 : decode cX6_init 65 = .ok (.putfield 33, 3) := by decide +kernel
theorem dX6_init_68 : decode cX6_init 68 = .ok (.aload_n 0, 1) := by decide +kernel
theorem dX6_init_69 : decode cX6_init 69 = .ok (.bipush 20, 2) := by decide +kernel
theorem dX6_init_71 : decode cX6_init 71 = .ok (.newarray .int, 2) := by decide +kernel
theorem dX6_init_73 : decode cX6_init 73 = .ok (.putfield 36, 3) := by decide +kernel
theorem dX6_init_76 : decode cX6_init 76 = .ok (.aload_n 0, 1) := by decide +kernel
theorem dX6_init_77 : decode cX6_init 77 = .ok (.iconst 3, 1) := by decide +kernel
theorem dX6_init_78 : decode cX6_init 78 = .ok (.newarray .int, 2) := by decide +kernel
theorem dX6_init_80 : decode cX6_init 80 = .ok (.dup, 1) := by decide +kernel
theorem dX6_init_81 : decode cX6_init 81 = .ok (.iconst 0, 1) := by decide +kernel
theorem dX6_init_82 : decode cX6_init 82 = .ok (.iconst 0, 1) := by decide +kernel
theorem dX6_init_83 : decode cX6_init 83 = .ok (.iastore, 1) := by decide +kernel
theorem dX6_init_84 : decode cX6_init 84 = .ok (.dup, 1) := by decide +kernel
theorem dX6_init_85 : decode cX6_init 85 = .ok (.iconst 1, 1) := by decide +kernel
theorem dX6_init_86 : decode cX6_init 86 = .ok (.iconst 0, 1) := by decide +kernel
theorem dX6_init_87 : decode cX6_init 87 = .ok (.iastore, 1) := by decide +kernel
theorem dX6_init_88 : decode cX6_init 88 = .ok (.dup, 1) := by decide +kernel
theorem dX6_init_89 : decode cX6_init 89 = .ok (.iconst 2, 1) := by decide +kernel
theorem dX6_init_90 : decode cX6_init 90 = .ok (.iconst 3, 1) := by decide +kernel
theorem dX6_init_91 : decode cX6_init 91 = .ok (.iastore, 1) := by decide +kernel
theorem dX6_init_92 : decode cX6_init 92 = .ok (.putfield 39, 3) := by decide +kernel
theorem dX6_init_95 : decode cX6_init 95 = .ok (.aload_n 0, 1) := by decide +kernel
theorem dX6_init_96 : decode cX6_init 96 = .ok (.bipush 10, 2) := by decide +kernel
theorem dX6_init_98 : decode cX6_init 98 = .ok (.newarray .int, 2) := by decide +kernel
theorem dX6_init_100 : decode cX6_init 100 = .ok (.putfield 42, 3) := by decide +kernel
theorem dX6_init_103 : decode cX6_init 103 = .ok (.aload_n 0, 1) := by decide +kernel
theorem dX6_init_104 : decode cX6_init 104 = .ok (.bipush 6, 2) := by decide +kernel
theorem dX6_init_106 : decode cX6_init 106 = .ok (.newarray .int, 2) := by decide +kernel
theorem dX6_init_108 : decode cX6_init 108 = .ok (.putfield 45, 3) := by decide +kernel
theorem dX6_init_111 : decode cX6_init 111 = .ok (.aload_n 0, 1) := by decide +kernel
theorem dX6_init_112 : decode cX6_init 112 = .ok (.new 48, 3) := by decide +kernel
theorem dX6_init_115 : decode cX6_init 115 = .ok (.dup, 1) := by decide +kernel
theorem dX6_init_116 : decode cX6_init 116 = .ok (.invokespecial 50, 3) := by decide +kernel
theorem dX6_init_119 : decode cX6_init 119 = .ok (.putfield 51, 3) := by decide +kernel
theorem dX6_init_122 : decode cX6_init 122 = .ok (.return_, 1) := by decide +kernel
theorem dX6_isBare_0 : decode cX6_isBare 0 = .ok (.aload_n 0, 1) := by decide +kernel
theorem dX6_isBare_1 : decode cX6_isBare 1 = .ok (.getfield 55, 3) := by decide +kernel
theorem dX6_isBare_4 : decode cX6_isBare 4 = .ok (.ifCond .eq 10, 3) := by decide +kernel
theorem dX6_isBare_7 : decode cX6_isBare 7 = .ok (.aload_n 0, 1) := by decide +kernel
theorem dX6_isBare_8 : decode cX6_isBare 8 = .ok (.getfield 59, 3) := by decide +kernel
theorem dX6_isBare_11 : decode cX6_isBare 11 = .ok (.ifCond .ne 7, 3) := by decide +kernel
theorem dX6_isBare_14 : decode cX6_isBare 14 = .ok (.iconst 1, 1) := by decide +kernel
theorem dX6_isBare_15 : decode cX6_isBare 15 = .ok (.goto 4, 3) := by decide +kernel
theorem dX6_isBare_18 : decode cX6_isBare 18 = .ok (.iconst 0, 1) := by decide +kernel
theorem dX6_isBare_19 : decode cX6_isBare 19 = .ok (.ireturn, 1) := by decide +kernel
theorem dX6_addPerson_0 : decode cX6_addPerson 0 = .ok (.aload_n 0, 1) := by decide +kernel
theorem dX6_addPerson_1 : decode cX6_addPerson 1 = .ok (.getfield 9, 3) := by decide +kernel
theorem dX6_addPerson_4 : decode cX6_addPerson 4 = .ok (.aload_n 0, 1) := by decide +kernel
theorem dX6_addPerson_5 : decode cX6_addPerson 5 = .ok (.getfield 55, 3) := by decide +kernel
theorem dX6_addPerson_8 : decode cX6_addPerson 8 = .ok (.iload_n 1, 1) := by decide +kernel
theorem dX6_addPerson_9 : decode cX6_addPerson 9 = .ok (.bipush 10, 2) := by decide +kernel
theorem dX6_addPerson_11 : decode cX6_addPerson 11 = .ok (.idiv, 1) := by decide +kernel
theorem dX6_addPerson_12 : decode cX6_addPerson 12 = .ok (.iastore, 1) := by decide +kernel
theorem dX6_addPerson_13 : decode cX6_addPerson 13 = .ok (.aload_n 0, 1) := by decide +kernel
theorem dX6_addPerson_14 : decode cX6_addPerson 14 = .ok (.getfield 15, 3) := by decide +kernel
theorem dX6_addPerson_17 : decode cX6_addPerson 17 = .ok (.aload_n 0, 1) := by decide +kernel
theorem dX6_addPerson_18 : decode cX6_addPerson 18 = .ok (.getfield 55, 3) := by decide +kernel
theorem dX6_addPerson_21 : decode cX6_addPerson 21 = .ok (.iload_n 1, 1) := by decide +kernel
theorem dX6_addPerson_22 : decode cX6_addPerson 22 = .ok (.bipush 10, 2) := by decide +kernel
theorem dX6_addPerson_24 : decode cX6_addPerson 24 = .ok (.irem, 1) := by decide +kernel
theorem dX6_addPerson_25 : decode cX6_addPerson 25 = .ok (.iastore, 1) := by decide +kernel
theorem dX6_addPerson_26 : decode cX6_addPerson 26 = .ok (.aload_n 0, 1) := by decide +kernel
theorem dX6_addPerson_27 : decode cX6_addPerson 27 = .ok (.getfield 18, 3) := by decide +kernel
theorem dX6_addPerson_30 : decode cX6_addPerson 30 = .ok (.aload_n 0, 1) := by decide +kernel
theorem dX6_addPerson_31 : decode cX6_addPerson 31 = .ok (.getfield 55, 3) := by decide +kernel
theorem dX6_addPerson_34 : decode cX6_addPerson 34 = .ok (.iload_n 2, 1) := by decide +kernel
theorem dX6_addPerson_35 : decode cX6_addPerson 35 = .ok (.bipush 100, 2) := by decide +kernel
theorem dX6_addPerson_37 : decode cX6_addPerson 37 = .ok (.idiv, 1) := by decide +kernel
theorem dX6_addPerson_38 : decode cX6_addPerson 38 = .ok (.iastore, 1) := by decide +kernel
theorem dX6_addPerson_39 : decode cX6_addPerson 39 = .ok (.aload_n 0, 1) := by decide +kernel
theorem dX6_addPerson_40 : decode cX6_addPerson 40 = .ok (.getfield 21, 3) := by decide +kernel
theorem dX6_addPerson_43 : decode cX6_addPerson 43 = .ok (.aload_n 0, 1) := by decide +kernel
theorem dX6_addPerson_44 : decode cX6_addPerson 44 = .ok (.getfield 55, 3) := by decide +kernel
theorem dX6_addPerson_47 : decode cX6_addPerson 47 = .ok (.iload_n 2, 1) := by decide +kernel
theorem dX6_addPerson_48 : decode cX6_addPerson 48 = .ok (.bipush 100, 2) := by decide +kernel
theorem dX6_addPerson_50 : decode cX6_addPerson 50 = .ok (.irem, 1) := by decide +kernel
theorem dX6_addPerson_51 : decode cX6_addPerson 51 = .ok (.iastore, 1) := by decide +kernel
theorem dX6_addPerson_52 : decode cX6_addPerson 52 = .ok (.aload_n 0, 1) := by decide +kernel
theorem dX6_addPerson_53 : decode cX6_addPerson 53 = .ok (.dup, 1) := by decide +kernel
theorem dX6_addPerson_54 : decode cX6_addPerson 54 = .ok (.getfield 62, 3) := by decide +kernel
theorem dX6_addPerson_57 : decode cX6_addPerson 57 = .ok (.iconst 1, 1) := by decide +kernel
theorem dX6_addPerson_58 : decode cX6_addPerson 58 = .ok (.iadd, 1) := by decide +kernel
theorem dX6_addPerson_59 : decode cX6_addPerson 59 = .ok (.putfield 62, 3) := by decide +kernel
theorem dX6_addPerson_62 : decode cX6_addPerson 62 = .ok (.aload_n 0, 1) := by decide +kernel
theorem dX6_addPerson_63 : decode cX6_addPerson 63 = .ok (.dup, 1) := by decide +kernel
theorem dX6_addPerson_64 : decode cX6_addPerson 64 = .ok (.getfield 55, 3) := by decide +kernel
theorem dX6_addPerson_67 : decode cX6_addPerson 67 = .ok (.dup_x1, 1) := by decide +kernel
theorem dX6_addPerson_68 : decode cX6_addPerson 68 = .ok (.iconst 1, 1) := by decide +kernel
theorem dX6_addPerson_69 : decode cX6_addPerson 69 = .ok (.iadd, 1) := by decide +kernel
theorem dX6_addPerson_70 : decode cX6_addPerson 70 = .ok (.putfield 55, 3) := by decide +kernel
theorem dX6_addPerson_73 : decode cX6_addPerson 73 = .ok (.ireturn, 1) := by decide +kernel
theorem dX6_addThing_0 : decode cX6_addThing 0 = .ok (.aload_n 0, 1) := by decide +kernel
theorem dX6_addThing_1 : decode cX6_addThing 1 = .ok (.getfield 24, 3) := by decide +kernel
theorem dX6_addThing_4 : decode cX6_addThing 4 = .ok (.aload_n 0, 1) := by decide +kernel
theorem dX6_addThing_5 : decode cX6_addThing 5 = .ok (.getfield 59, 3) := by decide +kernel
theorem dX6_addThing_8 : decode cX6_addThing 8 = .ok (.iload_n 1, 1) := by decide +kernel
theorem dX6_addThing_9 : decode cX6_addThing 9 = .ok (.iastore, 1) := by decide +kernel
theorem dX6_addThing_10 : decode cX6_addThing 10 = .ok (.aload_n 0, 1) := by decide +kernel
theorem dX6_addThing_11 : decode cX6_addThing 11 = .ok (.getfield 27, 3) := by decide +kernel
theorem dX6_addThing_14 : decode cX6_addThing 14 = .ok (.aload_n 0, 1) := by decide +kernel
theorem dX6_addThing_15 : decode cX6_addThing 15 = .ok (.getfield 59, 3) := by decide +kernel
theorem dX6_addThing_18 : decode cX6_addThing 18 = .ok (.iload_n 2, 1) := by decide +kernel
theorem dX6_addThing_19 : decode cX6_addThing 19 = .ok (.iastore, 1) := by decide +kernel
theorem dX6_addThing_20 : decode cX6_addThing 20 = .ok (.aload_n 0, 1) := by decide +kernel
theorem dX6_addThing_21 : decode cX6_addThing 21 = .ok (.dup, 1) := by decide +kernel
theorem dX6_addThing_22 : decode cX6_addThing 22 = .ok (.getfield 62, 3) := by decide +kernel
theorem dX6_addThing_25 : decode cX6_addThing 25 = .ok (.iconst 1, 1) := by decide +kernel
theorem dX6_addThing_26 : decode cX6_addThing 26 = .ok (.iadd, 1) := by decide +kernel
theorem dX6_addThing_27 : decode cX6_addThing 27 = .ok (.putfield 62, 3) := by decide +kernel
theorem dX6_addThing_30 : decode cX6_addThing 30 = .ok (.aload_n 0, 1) := by decide +kernel
theorem dX6_addThing_31 : decode cX6_addThing 31 = .ok (.dup, 1) := by decide +kernel
theorem dX6_addThing_32 : decode cX6_addThing 32 = .ok (.getfield 59, 3) := by decide +kernel
theorem dX6_addThing_35 : decode cX6_addThing 35 = .ok (.dup_x1, 1) := by decide +kernel
theorem dX6_addThing_36 : decode cX6_addThing 36 = .ok (.iconst 1, 1) := by decide +kernel
theorem dX6_addThing_37 : decode cX6_addThing 37 = .ok (.iadd, 1) := by decide +kernel
theorem dX6_addThing_38 : decode cX6_addThing 38 = .ok (.putfield 59, 3) := by decide +kernel
theorem dX6_addThing_41 : decode cX6_addThing 41 = .ok (.ireturn, 1) := by decide +kernel
theorem dX6_isCard_0 : decode cX6_isCard 0 = .ok (.iload_n 1, 1) := by decide +kernel
theorem dX6_isCard_1 : decode cX6_isCard 1 = .ok (.ifCond .lt 38, 3) := by decide +kernel
theorem dX6_isCard_4 : decode cX6_isCard 4 = .ok (.iload_n 1, 1) := by decide +kernel
theorem dX6_isCard_5 : decode cX6_isCard 5 = .ok (.aload_n 0, 1) := by decide +kernel
theorem dX6_isCard_6 : decode cX6_isCard 6 = .ok (.getfield 59, 3) := by decide +kernel
theorem dX6_isCard_9 : decode cX6_isCard 9 = .ok (.if_icmp .ge 30, 3) := by decide +kernel
theorem dX6_isCard_12 : decode cX6_isCard 12 = .ok (.iload_n 2, 1) := by decide +kernel
theorem dX6_isCard_13 : decode cX6_isCard 13 = .ok (.bipush (-9), 2) := by decide +kernel
theorem dX6_isCard_15 : decode cX6_isCard 15 = .ok (.if_icmp .lt 24, 3) := by decide +kernel
theorem dX6_isCard_18 : decode cX6_isCard 18 = .ok (.iload_n 2, 1) := by decide +kernel
theorem dX6_isCard_19 : decode cX6_isCard 19 = .ok (.bipush 9, 2) := by decide +kernel
theorem dX6_isCard_21 : decode cX6_isCard 21 = .ok (.if_icmp .gt 18, 3) := by decide +kernel
theorem dX6_isCard_24 : decode cX6_isCard 24 = .ok (.iload_n 3, 1) := by decide +kernel
theorem dX6_isCard_25 : decode cX6_isCard 25 = .ok (.ifCond .lt 14, 3) := by decide +kernel
theorem dX6_isCard_28 : decode cX6_isCard 28 = .ok (.iload_n 3, 1) := by decide +kernel
theorem dX6_isCard_29 : decode cX6_isCard 29 = .ok (.sipush 1023, 3) := by decide +kernel
theorem dX6_isCard_32 : decode cX6_isCard 32 = .ok (.if_icmp .gt 7, 3) := by decide +kernel
theorem dX6_isCard_35 : decode cX6_isCard 35 = .ok (.iconst 1, 1) := by decide +kernel
theorem dX6_isCard_36 : decode cX6_isCard 36 = .ok (.goto 4, 3) := by decide +kernel
theorem dX6_isCard_39 : decode cX6_isCard 39 = .ok (.iconst 0, 1) := by decide +kernel
theorem dX6_isCard_40 : decode cX6_isCard 40 = .ok (.ireturn, 1) := by decide +kernel
theorem dX6_addCard_0 : decode cX6_addCard 0 = .ok (.aload_n 0, 1) := by decide +kernel
theorem dX6_addCard_1 : decode cX6_addCard 1 = .ok (.getfield 30, 3) := by decide +kernel
theorem dX6_addCard_4 : decode cX6_addCard 4 = .ok (.aload_n 0, 1) := by decide +kernel
theorem dX6_addCard_5 : decode cX6_addCard 5 = .ok (.getfield 65, 3) := by decide +kernel
theorem dX6_addCard_8 : decode cX6_addCard 8 = .ok (.iload_n 1, 1) := by decide +kernel
theorem dX6_addCard_9 : decode cX6_addCard 9 = .ok (.iastore, 1) := by decide +kernel
theorem dX6_addCard_10 : decode cX6_addCard 10 = .ok (.aload_n 0, 1) := by decide +kernel
theorem dX6_addCard_11 : decode cX6_addCard 11 = .ok (.getfield 33, 3) := by decide +kernel
theorem dX6_addCard_14 : decode cX6_addCard 14 = .ok (.aload_n 0, 1) := by decide +kernel
theorem dX6_addCard_15 : decode cX6_addCard 15 = .ok (.getfield 65, 3) := by decide +kernel
theorem dX6_addCard_18 : decode cX6_addCard 18 = .ok (.iload_n 2, 1) := by decide +kernel
theorem dX6_addCard_19 : decode cX6_addCard 19 = .ok (.iastore, 1) := by decide +kernel
theorem dX6_addCard_20 : decode cX6_addCard 20 = .ok (.aload_n 0, 1) := by decide +kernel
theorem dX6_addCard_21 : decode cX6_addCard 21 = .ok (.getfield 36, 3) := by decide +kernel
theorem dX6_addCard_24 : decode cX6_addCard 24 = .ok (.aload_n 0, 1) := by decide +kernel
theorem dX6_addCard_25 : decode cX6_addCard 25 = .ok (.getfield 65, 3) := by decide +kernel
theorem dX6_addCard_28 : decode cX6_addCard 28 = .ok (.iload_n 3, 1) := by decide +kernel
theorem dX6_addCard_29 : decode cX6_addCard 29 = .ok (.iastore, 1) := by decide +kernel
theorem dX6_addCard_30 : decode cX6_addCard 30 = .ok (.aload_n 0, 1) := by decide +kernel
theorem dX6_addCard_31 : decode cX6_addCard 31 = .ok (.getfield 45, 3) := by decide +kernel
theorem dX6_addCard_34 : decode cX6_addCard 34 = .ok (.iload_n 1, 1) := by decide +kernel
theorem dX6_addCard_35 : decode cX6_addCard 35 = .ok (.dup2, 1) := by decide +kernel
theorem dX6_addCard_36 : decode cX6_addCard 36 = .ok (.iaload, 1) := by decide +kernel
theorem dX6_addCard_37 : decode cX6_addCard 37 = .ok (.iconst 1, 1) := by decide +kernel
theorem dX6_addCard_38 : decode cX6_addCard 38 = .ok (.aload_n 0, 1) := by decide +kernel
theorem dX6_addCard_39 : decode cX6_addCard 39 = .ok (.getfield 65, 3) := by decide +kernel
theorem dX6_addCard_42 : decode cX6_addCard 42 = .ok (.ishl, 1) := by decide +kernel
theorem dX6_addCard_43 : decode cX6_addCard 43 = .ok (.ior, 1) := by decide +kernel
theorem dX6_addCard_44 : decode cX6_addCard 44 = .ok (.iastore, 1) := by decide +kernel
theorem dX6_addCard_45 : decode cX6_addCard 45 = .ok (.iconst 0, 1) := by decide +kernel
theorem dX6_addCard_46 : decode cX6_addCard 46 = .ok (.istore 4, 2) := by decide +kernel
theorem dX6_addCard_48 : decode cX6_addCard 48 = .ok (.iload 4, 2) := by decide +kernel
theorem dX6_addCard_50 : decode cX6_addCard 50 = .ok (.bipush 10, 2) := by decide +kernel
theorem dX6_addCard_52 : decode cX6_addCard 52 = .ok (.if_icmp .ge 30, 3) := by decide +kernel
theorem dX6_addCard_55 : decode cX6_addCard 55 = .ok (.aload_n 0, 1) := by decide +kernel
theorem dX6_addCard_56 : decode cX6_addCard 56 = .ok (.getfield 42, 3) := by decide +kernel
theorem dX6_addCard_59 : decode cX6_addCard 59 = .ok (.iload 4, 2) := by decide +kernel
theorem dX6_addCard_61 : decode cX6_addCard 61 = .ok (.dup2, 1) := by decide +kernel
theorem dX6_addCard_62 : decode cX6_addCard 62 = .ok (.iaload, 1) := by decide +kernel
theorem dX6_addCard_63 : decode cX6_addCard 63 = .ok (.iload_n 3, 1) := by decide +kernel
theorem dX6_addCard_64 : decode cX6_addCard 64 = .ok (.iload 4, 2) := by decide +kernel
theorem dX6_addCard_66 : decode cX6_addCard 66 = .ok (.ishr, 1) := by decide +kernel
theorem dX6_addCard_67 : decode cX6_addCard 67 = .ok (.iconst 1, 1) := by decide +kernel
theorem dX6_addCard_68 : decode cX6_addCard 68 = .ok (.iand, 1) := by decide +kernel
theorem dX6_addCard_69 : decode cX6_addCard 69 = .ok (.aload_n 0, 1) := by decide +kernel
theorem dX6_addCard_70 : decode cX6_addCard 70 = .ok (.getfield 65, 3) := by decide +kernel
theorem dX6_addCard_73 : decode cX6_addCard 73 = .ok (.ishl, 1) := by decide +kernel
theorem dX6_addCard_74 : decode cX6_addCard 74 = .ok (.ior, 1) := by decide +kernel
theorem dX6_addCard_75 : decode cX6_addCard 75 = .ok (.iastore, 1) := by decide +kernel
theorem dX6_addCard_76 : decode cX6_addCard 76 = .ok (.iinc 4 1, 3) := by decide +kernel
theorem dX6_addCard_79 : decode cX6_addCard 79 = .ok (.goto (-31), 3) := by decide +kernel
theorem dX6_addCard_82 : decode cX6_addCard 82 = .ok (.aload_n 0, 1) := by decide +kernel
theorem dX6_addCard_83 : decode cX6_addCard 83 = .ok (.dup, 1) := by decide +kernel
theorem dX6_addCard_84 : decode cX6_addCard 84 = .ok (.getfield 62, 3) := by decide +kernel
theorem dX6_addCard_87 : decode cX6_addCard 87 = .ok (.iconst 1, 1) := by decide +kernel
theorem dX6_addCard_88 : decode cX6_addCard 88 = .ok (.iadd, 1) := by decide +kernel
theorem dX6_addCard_89 : decode cX6_addCard 89 = .ok (.putfield 62, 3) := by decide +kernel
theorem dX6_addCard_92 : decode cX6_addCard 92 = .ok (.aload_n 0, 1) := by decide +kernel
theorem dX6_addCard_93 : decode cX6_addCard 93 = .ok (.dup, 1) := by decide +kernel
theorem dX6_addCard_94 : decode cX6_addCard 94 = .ok (.getfield 65, 3) := by decide +kernel
theorem dX6_addCard_97 : decode cX6_addCard 97 = .ok (.dup_x1, 1) := by decide +kernel
theorem dX6_addCard_98 : decode cX6_addCard 98 = .ok (.iconst 1, 1) := by decide +kernel
theorem dX6_addCard_99 : decode cX6_addCard 99 = .ok (.iadd, 1) := by decide +kernel
theorem dX6_addCard_100 : decode cX6_addCard 100 = .ok (.putfield 65, 3) := by decide +kernel
theorem dX6_addCard_103 : decode cX6_addCard 103 = .ok (.ireturn, 1) := by decide +kernel
theorem dX6_addCards_0 : decode cX6_addCards 0 = .ok (.iconst 0, 1) := by decide +kernel
theorem dX6_addCards_1 : decode cX6_addCards 1 = .ok (.istore 4, 2) := by decide +kernel
theorem dX6_addCards_3 : decode cX6_addCards 3 = .ok (.iload 4, 2) := by decide +kernel
theorem dX6_addCards_5 : decode cX6_addCards 5 = .ok (.iload_n 3, 1) := by decide +kernel
theorem dX6_addCards_6 : decode cX6_addCards 6 = .ok (.if_icmp .ge 101, 3) := by decide +kernel
theorem dX6_addCards_9 : decode cX6_addCards 9 = .ok (.aload_n 0, 1) := by decide +kernel
theorem dX6_addCards_10 : decode cX6_addCards 10 = .ok (.getfield 65, 3) := by decide +kernel
theorem dX6_addCards_13 : decode cX6_addCards 13 = .ok (.bipush 20, 2) := by decide +kernel
theorem dX6_addCards_15 : decode cX6_addCards 15 = .ok (.if_icmp .ge 92, 3) := by decide +kernel
theorem dX6_addCards_18 : decode cX6_addCards 18 = .ok (.aload_n 1, 1) := by decide +kernel
theorem dX6_addCards_19 : decode cX6_addCards 19 = .ok (.iload_n 2, 1) := by decide +kernel
theorem dX6_addCards_20 : decode cX6_addCards 20 = .ok (.iconst 3, 1) := by decide +kernel
theorem dX6_addCards_21 : decode cX6_addCards 21 = .ok (.iload 4, 2) := by decide +kernel
theorem dX6_addCards_23 : decode cX6_addCards 23 = .ok (.imul, 1) := by decide +kernel
theorem dX6_addCards_24 : decode cX6_addCards 24 = .ok (.iconst 3, 1) := by decide +kernel
theorem dX6_addCards_25 : decode cX6_addCards 25 = .ok (.iadd, 1) := by decide +kernel
theorem dX6_addCards_26 : decode cX6_addCards 26 = .ok (.invokevirtual 68, 3) := by decide +kernel
theorem dX6_addCards_29 : decode cX6_addCards 29 = .ok (.ifCond .eq 78, 3) := by decide +kernel
theorem dX6_addCards_32 : decode cX6_addCards 32 = .ok (.iload_n 2, 1) := by decide +kernel
theorem dX6_addCards_33 : decode cX6_addCards 33 = .ok (.iconst 3, 1) := by decide +kernel
theorem dX6_addCards_34 : decode cX6_addCards 34 = .ok (.iload 4, 2) := by decide +kernel
theorem dX6_addCards_36 : decode cX6_addCards 36 = .ok (.imul, 1) := by decide +kernel
theorem dX6_addCards_37 : decode cX6_addCards 37 = .ok (.iadd, 1) := by decide +kernel
theorem dX6_addCards_38 : decode cX6_addCards 38 = .ok (.istore 5, 2) := by decide +kernel
theorem dX6_addCards_40 : decode cX6_addCards 40 = .ok (.aload_n 1, 1) := by decide +kernel
theorem dX6_addCards_41 : decode cX6_addCards 41 = .ok (.getfield 74, 3) := by decide +kernel
theorem dX6_addCards_44 : decode cX6_addCards 44 = .ok (.iload 5, 2) := by decide +kernel
theorem dX6_addCards_46 : decode cX6_addCards 46 = .ok (.laload, 1) := by decide +kernel
theorem dX6_addCards_47 : decode cX6_addCards 47 = .ok (.l2i, 1) := by decide +kernel
theorem dX6_addCards_48 : decode cX6_addCards 48 = .ok (.istore 6, 2) := by decide +kernel
theorem dX6_addCards_50 : decode cX6_addCards 50 = .ok (.aload_n 1, 1) := by decide +kernel
theorem dX6_addCards_51 : decode cX6_addCards 51 = .ok (.getfield 74, 3) := by decide +kernel
theorem dX6_addCards_54 : decode cX6_addCards 54 = .ok (.iload 5, 2) := by decide +kernel
theorem dX6_addCards_56 : decode cX6_addCards 56 = .ok (.iconst 1, 1) := by decide +kernel
theorem dX6_addCards_57 : decode cX6_addCards 57 = .ok (.iadd, 1) := by decide +kernel
theorem dX6_addCards_58 : decode cX6_addCards 58 = .ok (.laload, 1) := by decide +kernel
theorem dX6_addCards_59 : decode cX6_addCards 59 = .ok (.l2i, 1) := by decide +kernel
theorem dX6_addCards_60 : decode cX6_addCards 60 = .ok (.istore 7, 2) := by decide +kernel
theorem dX6_addCards_62 : decode cX6_addCards 62 = .ok (.aload_n 1, 1) := by decide +kernel
theorem dX6_addCards_63 : decode cX6_addCards 63 = .ok (.getfield 74, 3) := by decide +kernel
theorem dX6_addCards_66 : decode cX6_addCards 66 = .ok (.iload 5, 2) := by decide +kernel
theorem dX6_addCards_68 : decode cX6_addCards 68 = .ok (.iconst 2, 1) := by decide +kernel
theorem dX6_addCards_69 : decode cX6_addCards 69 = .ok (.iadd, 1) := by decide +kernel
theorem dX6_addCards_70 : decode cX6_addCards 70 = .ok (.laload, 1) := by decide +kernel
theorem dX6_addCards_71 : decode cX6_addCards 71 = .ok (.l2i, 1) := by decide +kernel
theorem dX6_addCards_72 : decode cX6_addCards 72 = .ok (.istore 8, 2) := by decide +kernel
theorem dX6_addCards_74 : decode cX6_addCards 74 = .ok (.aload_n 0, 1) := by decide +kernel
theorem dX6_addCards_75 : decode cX6_addCards 75 = .ok (.iload 6, 2) := by decide +kernel
theorem dX6_addCards_77 : decode cX6_addCards 77 = .ok (.iload 7, 2) := by decide +kernel
theorem dX6_addCards_79 : decode cX6_addCards 79 = .ok (.iload 8, 2) := by decide +kernel
theorem dX6_addCards_81 : decode cX6_addCards 81 = .ok (.invokevirtual 78, 3) := by decide +kernel
theorem dX6_addCards_84 : decode cX6_addCards 84 = .ok (.ifCond .ne 6, 3) := by decide +kernel
theorem dX6_addCards_87 : decode cX6_addCards 87 = .ok (.goto 20, 3) := by decide +kernel
theorem dX6_addCards_90 : decode cX6_addCards 90 = .ok (.aload_n 0, 1) := by decide +kernel
theorem dX6_addCards_91 : decode cX6_addCards 91 = .ok (.iload 6, 2) := by decide +kernel
theorem dX6_addCards_93 : decode cX6_addCards 93 = .ok (.iload 7, 2) := by decide +kernel
theorem dX6_addCards_95 : decode cX6_addCards 95 = .ok (.iload 8, 2) := by decide +kernel
theorem dX6_addCards_97 : decode cX6_addCards 97 = .ok (.invokevirtual 82, 3) := by decide +kernel
theorem dX6_addCards_100 : decode cX6_addCards 100 = .ok (.pop, 1) := by decide +kernel
theorem dX6_addCards_101 : decode cX6_addCards 101 = .ok (.iinc 4 1, 3) := by decide +kernel
theorem dX6_addCards_104 : decode cX6_addCards 104 = .ok (.goto (-101), 3) := by decide +kernel
theorem dX6_addCards_107 : decode cX6_addCards 107 = .ok (.iload 4, 2) := by decide +kernel
theorem dX6_addCards_109 : decode cX6_addCards 109 = .ok (.ireturn, 1) := by decide +kernel
theorem dX6_mendable_0 : decode cX6_mendable 0 = .ok (.iload_n 1, 1) := by decide +kernel
theorem dX6_mendable_1 : decode cX6_mendable 1 = .ok (.tableswitch 51 0 3 #[31, 36, 41, 46], 31) := by decide +kernel
theorem dX6_mendable_32 : decode cX6_mendable 32 = .ok (.aload_n 0, 1) := by decide +kernel
theorem dX6_mendable_33 : decode cX6_mendable 33 = .ok (.getfield 9, 3) := by decide +kernel
theorem dX6_mendable_36 : decode cX6_mendable 36 = .ok (.areturn, 1) := by decide +kernel
theorem dX6_mendable_37 : decode cX6_mendable 37 = .ok (.aload_n 0, 1) := by decide +kernel
theorem dX6_mendable_38 : decode cX6_mendable 38 = .ok (.getfield 15, 3) := by decide +kernel
theorem dX6_mendable_41 : decode cX6_mendable 41 = .ok (.areturn, 1) := by decide +kernel
theorem dX6_mendable_42 : decode cX6_mendable 42 = .ok (.aload_n 0, 1) := by decide +kernel
theorem dX6_mendable_43 : decode cX6_mendable 43 = .ok (.getfield 21, 3) := by decide +kernel
theorem dX6_mendable_46 : decode cX6_mendable 46 = .ok (.areturn, 1) := by decide +kernel
theorem dX6_mendable_47 : decode cX6_mendable 47 = .ok (.aload_n 0, 1) := by decide +kernel
theorem dX6_mendable_48 : decode cX6_mendable 48 = .ok (.getfield 24, 3) := by decide +kernel
theorem dX6_mendable_51 : decode cX6_mendable 51 = .ok (.areturn, 1) := by decide +kernel
theorem dX6_mendable_52 : decode cX6_mendable 52 = .ok (.aload_n 0, 1) := by decide +kernel
theorem dX6_mendable_53 : decode cX6_mendable 53 = .ok (.getfield 27, 3) := by decide +kernel
theorem dX6_mendable_56 : decode cX6_mendable 56 = .ok (.areturn, 1) := by decide +kernel
theorem dX6_change_0 : decode cX6_change 0 = .ok (.aload_n 0, 1) := by decide +kernel
theorem dX6_change_1 : decode cX6_change 1 = .ok (.iload_n 2, 1) := by decide +kernel
theorem dX6_change_2 : decode cX6_change 2 = .ok (.invokevirtual 86, 3) := by decide +kernel
theorem dX6_change_5 : decode cX6_change 5 = .ok (.iload_n 1, 1) := by decide +kernel
theorem dX6_change_6 : decode cX6_change 6 = .ok (.iload_n 3, 1) := by decide +kernel
theorem dX6_change_7 : decode cX6_change 7 = .ok (.iastore, 1) := by decide +kernel
theorem dX6_change_8 : decode cX6_change 8 = .ok (.aload_n 0, 1) := by decide +kernel
theorem dX6_change_9 : decode cX6_change 9 = .ok (.dup, 1) := by decide +kernel
theorem dX6_change_10 : decode cX6_change 10 = .ok (.getfield 62, 3) := by decide +kernel
theorem dX6_change_13 : decode cX6_change 13 = .ok (.iconst 1, 1) := by decide +kernel
theorem dX6_change_14 : decode cX6_change 14 = .ok (.iadd, 1) := by decide +kernel
theorem dX6_change_15 : decode cX6_change 15 = .ok (.putfield 62, 3) := by decide +kernel
theorem dX6_change_18 : decode cX6_change 18 = .ok (.return_, 1) := by decide +kernel
theorem dX6_ofPerson_0 : decode cX6_ofPerson 0 = .ok (.iload_n 2, 1) := by decide +kernel
theorem dX6_ofPerson_1 : decode cX6_ofPerson 1 = .ok (.tableswitch 48 0 2 #[27, 34, 41], 27) := by decide +kernel
theorem dX6_ofPerson_28 : decode cX6_ofPerson 28 = .ok (.aload_n 0, 1) := by decide +kernel
theorem dX6_ofPerson_29 : decode cX6_ofPerson 29 = .ok (.getfield 9, 3) := by decide +kernel
theorem dX6_ofPerson_32 : decode cX6_ofPerson 32 = .ok (.iload_n 1, 1) := by decide +kernel
theorem dX6_ofPerson_33 : decode cX6_ofPerson 33 = .ok (.iaload, 1) := by decide +kernel
theorem dX6_ofPerson_34 : decode cX6_ofPerson 34 = .ok (.ireturn, 1) := by decide +kernel
theorem dX6_ofPerson_35 : decode cX6_ofPerson 35 = .ok (.aload_n 0, 1) := by decide +kernel
theorem dX6_ofPerson_36 : decode cX6_ofPerson 36 = .ok (.getfield 15, 3) := by decide +kernel
theorem dX6_ofPerson_39 : decode cX6_ofPerson 39 = .ok (.iload_n 1, 1) := by decide +kernel
theorem dX6_ofPerson_40 : decode cX6_ofPerson 40 = .ok (.iaload, 1) := by decide +kernel
theorem dX6_ofPerson_41 : decode cX6_ofPerson 41 = .ok (.ireturn, 1) := by decide +kernel
theorem dX6_ofPerson_42 : decode cX6_ofPerson 42 = .ok (.aload_n 0, 1) := by decide +kernel
theorem dX6_ofPerson_43 : decode cX6_ofPerson 43 = .ok (.getfield 18, 3) := by decide +kernel
theorem dX6_ofPerson_46 : decode cX6_ofPerson 46 = .ok (.iload_n 1, 1) := by decide +kernel
theorem dX6_ofPerson_47 : decode cX6_ofPerson 47 = .ok (.iaload, 1) := by decide +kernel
theorem dX6_ofPerson_48 : decode cX6_ofPerson 48 = .ok (.ireturn, 1) := by decide +kernel
theorem dX6_ofPerson_49 : decode cX6_ofPerson 49 = .ok (.aload_n 0, 1) := by decide +kernel
theorem dX6_ofPerson_50 : decode cX6_ofPerson 50 = .ok (.getfield 21, 3) := by decide +kernel
theorem dX6_ofPerson_53 : decode cX6_ofPerson 53 = .ok (.iload_n 1, 1) := by decide +kernel
theorem dX6_ofPerson_54 : decode cX6_ofPerson 54 = .ok (.iaload, 1) := by decide +kernel
theorem dX6_ofPerson_55 : decode cX6_ofPerson 55 = .ok (.ireturn, 1) := by decide +kernel
theorem dX6_ofCard_0 : decode cX6_ofCard 0 = .ok (.iload_n 2, 1) := by decide +kernel
theorem dX6_ofCard_1 : decode cX6_ofCard 1 = .ok (.lookupswitch 41 #[(20, 27), (21, 34)], 27) := by decide +kernel
theorem dX6_ofCard_28 : decode cX6_ofCard 28 = .ok (.aload_n 0, 1) := by decide +kernel
theorem dX6_ofCard_29 : decode cX6_ofCard 29 = .ok (.getfield 30, 3) := by decide +kernel
theorem dX6_ofCard_32 : decode cX6_ofCard 32 = .ok (.iload_n 1, 1) := by decide +kernel
theorem dX6_ofCard_33 : decode cX6_ofCard 33 = .ok (.iaload, 1) := by decide +kernel
theorem dX6_ofCard_34 : decode cX6_ofCard 34 = .ok (.ireturn, 1) := by decide +kernel
theorem dX6_ofCard_35 : decode cX6_ofCard 35 = .ok (.aload_n 0, 1) := by decide +kernel
theorem dX6_ofCard_36 : decode cX6_ofCard 36 = .ok (.getfield 33, 3) := by decide +kernel
theorem dX6_ofCard_39 : decode cX6_ofCard 39 = .ok (.iload_n 1, 1) := by decide +kernel
theorem dX6_ofCard_40 : decode cX6_ofCard 40 = .ok (.iaload, 1) := by decide +kernel
theorem dX6_ofCard_41 : decode cX6_ofCard 41 = .ok (.ireturn, 1) := by decide +kernel
theorem dX6_ofCard_42 : decode cX6_ofCard 42 = .ok (.aload_n 0, 1) := by decide +kernel
theorem dX6_ofCard_43 : decode cX6_ofCard 43 = .ok (.getfield 36, 3) := by decide +kernel
theorem dX6_ofCard_46 : decode cX6_ofCard 46 = .ok (.iload_n 1, 1) := by decide +kernel
theorem dX6_ofCard_47 : decode cX6_ofCard 47 = .ok (.iaload, 1) := by decide +kernel
theorem dX6_ofCard_48 : decode cX6_ofCard 48 = .ok (.ireturn, 1) := by decide +kernel
theorem dX6_sum_0 : decode cX6_sum 0 = .ok (.aload_n 0, 1) := by decide +kernel
theorem dX6_sum_1 : decode cX6_sum 1 = .ok (.getfield 24, 3) := by decide +kernel
theorem dX6_sum_4 : decode cX6_sum 4 = .ok (.iload_n 1, 1) := by decide +kernel
theorem dX6_sum_5 : decode cX6_sum 5 = .ok (.iaload, 1) := by decide +kernel
theorem dX6_sum_6 : decode cX6_sum 6 = .ok (.istore_n 3, 1) := by decide +kernel
theorem dX6_sum_7 : decode cX6_sum 7 = .ok (.iconst 0, 1) := by decide +kernel
theorem dX6_sum_8 : decode cX6_sum 8 = .ok (.istore 4, 2) := by decide +kernel
theorem dX6_sum_10 : decode cX6_sum 10 = .ok (.iload 4, 2) := by decide +kernel
theorem dX6_sum_12 : decode cX6_sum 12 = .ok (.aload_n 0, 1) := by decide +kernel
theorem dX6_sum_13 : decode cX6_sum 13 = .ok (.getfield 65, 3) := by decide +kernel
theorem dX6_sum_16 : decode cX6_sum 16 = .ok (.if_icmp .ge 35, 3) := by decide +kernel
theorem dX6_sum_19 : decode cX6_sum 19 = .ok (.iload_n 2, 1) := by decide +kernel
theorem dX6_sum_20 : decode cX6_sum 20 = .ok (.aload_n 0, 1) := by decide +kernel
theorem dX6_sum_21 : decode cX6_sum 21 = .ok (.getfield 45, 3) := by decide +kernel
theorem dX6_sum_24 : decode cX6_sum 24 = .ok (.iload_n 1, 1) := by decide +kernel
theorem dX6_sum_25 : decode cX6_sum 25 = .ok (.iaload, 1) := by decide +kernel
theorem dX6_sum_26 : decode cX6_sum 26 = .ok (.iand, 1) := by decide +kernel
theorem dX6_sum_27 : decode cX6_sum 27 = .ok (.iconst 1, 1) := by decide +kernel
theorem dX6_sum_28 : decode cX6_sum 28 = .ok (.iload 4, 2) := by decide +kernel
theorem dX6_sum_30 : decode cX6_sum 30 = .ok (.ishl, 1) := by decide +kernel
theorem dX6_sum_31 : decode cX6_sum 31 = .ok (.iand, 1) := by decide +kernel
theorem dX6_sum_32 : decode cX6_sum 32 = .ok (.ifCond .eq 13, 3) := by decide +kernel
theorem dX6_sum_35 : decode cX6_sum 35 = .ok (.iload_n 3, 1) := by decide +kernel
theorem dX6_sum_36 : decode cX6_sum 36 = .ok (.aload_n 0, 1) := by decide +kernel
theorem dX6_sum_37 : decode cX6_sum 37 = .ok (.getfield 33, 3) := by decide +kernel
theorem dX6_sum_40 : decode cX6_sum 40 = .ok (.iload 4, 2) := by decide +kernel
theorem dX6_sum_42 : decode cX6_sum 42 = .ok (.iaload, 1) := by decide +kernel
theorem dX6_sum_43 : decode cX6_sum 43 = .ok (.iadd, 1) := by decide +kernel
theorem dX6_sum_44 : decode cX6_sum 44 = .ok (.istore_n 3, 1) := by decide +kernel
theorem dX6_sum_45 : decode cX6_sum 45 = .ok (.iinc 4 1, 3) := by decide +kernel
theorem dX6_sum_48 : decode cX6_sum 48 = .ok (.goto (-38), 3) := by decide +kernel
theorem dX6_sum_51 : decode cX6_sum 51 = .ok (.iload_n 3, 1) := by decide +kernel
theorem dX6_sum_52 : decode cX6_sum 52 = .ok (.ireturn, 1) := by decide +kernel
theorem dX6_decided_0 : decode cX6_decided 0 = .ok (.iconst 0, 1) := by decide +kernel
theorem dX6_decided_1 : decode cX6_decided 1 = .ok (.istore_n 2, 1) := by decide +kernel
theorem dX6_decided_2 : decode cX6_decided 2 = .ok (.iconst 0, 1) := by decide +kernel
theorem dX6_decided_3 : decode cX6_decided 3 = .ok (.istore_n 3, 1) := by decide +kernel
theorem dX6_decided_4 : decode cX6_decided 4 = .ok (.iload_n 3, 1) := by decide +kernel
theorem dX6_decided_5 : decode cX6_decided 5 = .ok (.aload_n 0, 1) := by decide +kernel
theorem dX6_decided_6 : decode cX6_decided 6 = .ok (.getfield 59, 3) := by decide +kernel
theorem dX6_decided_9 : decode cX6_decided 9 = .ok (.if_icmp .ge 28, 3) := by decide +kernel
theorem dX6_decided_12 : decode cX6_decided 12 = .ok (.iload_n 2, 1) := by decide +kernel
theorem dX6_decided_13 : decode cX6_decided 13 = .ok (.aload_n 0, 1) := by decide +kernel
theorem dX6_decided_14 : decode cX6_decided 14 = .ok (.iload_n 3, 1) := by decide +kernel
theorem dX6_decided_15 : decode cX6_decided 15 = .ok (.iload_n 1, 1) := by decide +kernel
theorem dX6_decided_16 : decode cX6_decided 16 = .ok (.invokevirtual 90, 3) := by decide +kernel
theorem dX6_decided_19 : decode cX6_decided 19 = .ok (.ifCond .le 9, 3) := by decide +kernel
theorem dX6_decided_22 : decode cX6_decided 22 = .ok (.iconst 1, 1) := by decide +kernel
theorem dX6_decided_23 : decode cX6_decided 23 = .ok (.iload_n 3, 1) := by decide +kernel
theorem dX6_decided_24 : decode cX6_decided 24 = .ok (.ishl, 1) := by decide +kernel
theorem dX6_decided_25 : decode cX6_decided 25 = .ok (.goto 4, 3) := by decide +kernel
theorem dX6_decided_28 : decode cX6_decided 28 = .ok (.iconst 0, 1) := by decide +kernel
theorem dX6_decided_29 : decode cX6_decided 29 = .ok (.ior, 1) := by decide +kernel
theorem dX6_decided_30 : decode cX6_decided 30 = .ok (.istore_n 2, 1) := by decide +kernel
theorem dX6_decided_31 : decode cX6_decided 31 = .ok (.iinc 3 1, 3) := by decide +kernel
theorem dX6_decided_34 : decode cX6_decided 34 = .ok (.goto (-30), 3) := by decide +kernel
theorem dX6_decided_37 : decode cX6_decided 37 = .ok (.iload_n 2, 1) := by decide +kernel
theorem dX6_decided_38 : decode cX6_decided 38 = .ok (.ireturn, 1) := by decide +kernel
theorem dX6_knownCards_0 : decode cX6_knownCards 0 = .ok (.iconst 0, 1) := by decide +kernel
theorem dX6_knownCards_1 : decode cX6_knownCards 1 = .ok (.istore_n 1, 1) := by decide +kernel
theorem dX6_knownCards_2 : decode cX6_knownCards 2 = .ok (.iconst 0, 1) := by decide +kernel
theorem dX6_knownCards_3 : decode cX6_knownCards 3 = .ok (.istore_n 2, 1) := by decide +kernel
theorem dX6_knownCards_4 : decode cX6_knownCards 4 = .ok (.iload_n 2, 1) := by decide +kernel
theorem dX6_knownCards_5 : decode cX6_knownCards 5 = .ok (.aload_n 0, 1) := by decide +kernel
theorem dX6_knownCards_6 : decode cX6_knownCards 6 = .ok (.getfield 55, 3) := by decide +kernel
theorem dX6_knownCards_9 : decode cX6_knownCards 9 = .ok (.if_icmp .ge 18, 3) := by decide +kernel
theorem dX6_knownCards_12 : decode cX6_knownCards 12 = .ok (.iload_n 1, 1) := by decide +kernel
theorem dX6_knownCards_13 : decode cX6_knownCards 13 = .ok (.aload_n 0, 1) := by decide +kernel
theorem dX6_knownCards_14 : decode cX6_knownCards 14 = .ok (.getfield 42, 3) := by decide +kernel
theorem dX6_knownCards_17 : decode cX6_knownCards 17 = .ok (.iload_n 2, 1) := by decide +kernel
theorem dX6_knownCards_18 : decode cX6_knownCards 18 = .ok (.iaload, 1) := by decide +kernel
theorem dX6_knownCards_19 : decode cX6_knownCards 19 = .ok (.ior, 1) := by decide +kernel
theorem dX6_knownCards_20 : decode cX6_knownCards 20 = .ok (.istore_n 1, 1) := by decide +kernel
theorem dX6_knownCards_21 : decode cX6_knownCards 21 = .ok (.iinc 2 1, 3) := by decide +kernel
theorem dX6_knownCards_24 : decode cX6_knownCards 24 = .ok (.goto (-20), 3) := by decide +kernel
theorem dX6_knownCards_27 : decode cX6_knownCards 27 = .ok (.iload_n 1, 1) := by decide +kernel
theorem dX6_knownCards_28 : decode cX6_knownCards 28 = .ok (.ireturn, 1) := by decide +kernel
theorem dX6_aloneCards_0 : decode cX6_aloneCards 0 = .ok (.iconst 0, 1) := by decide +kernel
theorem dX6_aloneCards_1 : decode cX6_aloneCards 1 = .ok (.istore_n 1, 1) := by decide +kernel
theorem dX6_aloneCards_2 : decode cX6_aloneCards 2 = .ok (.iconst 0, 1) := by decide +kernel
theorem dX6_aloneCards_3 : decode cX6_aloneCards 3 = .ok (.istore_n 2, 1) := by decide +kernel
theorem dX6_aloneCards_4 : decode cX6_aloneCards 4 = .ok (.iload_n 2, 1) := by decide +kernel
theorem dX6_aloneCards_5 : decode cX6_aloneCards 5 = .ok (.aload_n 0, 1) := by decide +kernel
theorem dX6_aloneCards_6 : decode cX6_aloneCards 6 = .ok (.getfield 65, 3) := by decide +kernel
theorem dX6_aloneCards_9 : decode cX6_aloneCards 9 = .ok (.if_icmp .ge 37, 3) := by decide +kernel
theorem dX6_aloneCards_12 : decode cX6_aloneCards 12 = .ok (.aload_n 0, 1) := by decide +kernel
theorem dX6_aloneCards_13 : decode cX6_aloneCards 13 = .ok (.getfield 36, 3) := by decide +kernel
theorem dX6_aloneCards_16 : decode cX6_aloneCards 16 = .ok (.iload_n 2, 1) := by decide +kernel
theorem dX6_aloneCards_17 : decode cX6_aloneCards 17 = .ok (.iaload, 1) := by decide +kernel
theorem dX6_aloneCards_18 : decode cX6_aloneCards 18 = .ok (.iconst 1, 1) := by decide +kernel
theorem dX6_aloneCards_19 : decode cX6_aloneCards 19 = .ok (.aload_n 0, 1) := by decide +kernel
theorem dX6_aloneCards_20 : decode cX6_aloneCards 20 = .ok (.getfield 55, 3) := by decide +kernel
theorem dX6_aloneCards_23 : decode cX6_aloneCards 23 = .ok (.ishl, 1) := by decide +kernel
theorem dX6_aloneCards_24 : decode cX6_aloneCards 24 = .ok (.iconst 1, 1) := by decide +kernel
theorem dX6_aloneCards_25 : decode cX6_aloneCards 25 = .ok (.isub, 1) := by decide +kernel
theorem dX6_aloneCards_26 : decode cX6_aloneCards 26 = .ok (.iand, 1) := by decide +kernel
theorem dX6_aloneCards_27 : decode cX6_aloneCards 27 = .ok (.invokestatic 94, 3) := by decide +kernel
theorem dX6_aloneCards_30 : decode cX6_aloneCards 30 = .ok (.iconst 1, 1) := by decide +kernel
theorem dX6_aloneCards_31 : decode cX6_aloneCards 31 = .ok (.if_icmp .ne 9, 3) := by decide +kernel
theorem dX6_aloneCards_34 : decode cX6_aloneCards 34 = .ok (.iload_n 1, 1) := by decide +kernel
theorem dX6_aloneCards_35 : decode cX6_aloneCards 35 = .ok (.iconst 1, 1) := by decide +kernel
theorem dX6_aloneCards_36 : decode cX6_aloneCards 36 = .ok (.iload_n 2, 1) := by decide +kernel
theorem dX6_aloneCards_37 : decode cX6_aloneCards 37 = .ok (.ishl, 1) := by decide +kernel
theorem dX6_aloneCards_38 : decode cX6_aloneCards 38 = .ok (.ior, 1) := by decide +kernel
theorem dX6_aloneCards_39 : decode cX6_aloneCards 39 = .ok (.istore_n 1, 1) := by decide +kernel
theorem dX6_aloneCards_40 : decode cX6_aloneCards 40 = .ok (.iinc 2 1, 3) := by decide +kernel
theorem dX6_aloneCards_43 : decode cX6_aloneCards 43 = .ok (.goto (-39), 3) := by decide +kernel
theorem dX6_aloneCards_46 : decode cX6_aloneCards 46 = .ok (.iload_n 1, 1) := by decide +kernel
theorem dX6_aloneCards_47 : decode cX6_aloneCards 47 = .ok (.ireturn, 1) := by decide +kernel
theorem dX7_init_0 : decode cX7_init 0 = .ok (.aload_n 0, 1) := by decide +kernel
theorem dX7_init_1 : decode cX7_init 1 = .ok (.invokespecial 3, 3) := by decide +kernel
theorem dX7_init_4 : decode cX7_init 4 = .ok (.aload_n 0, 1) := by decide +kernel
theorem dX7_init_5 : decode cX7_init 5 = .ok (.bipush 6, 2) := by decide +kernel
theorem dX7_init_7 : decode cX7_init 7 = .ok (.newarray .int, 2) := by decide +kernel
theorem dX7_init_9 : decode cX7_init 9 = .ok (.putfield 9, 3) := by decide +kernel
theorem dX7_init_12 : decode cX7_init 12 = .ok (.aload_n 0, 1) := by decide +kernel
theorem dX7_init_13 : decode cX7_init 13 = .ok (.bipush 9, 2) := by decide +kernel
theorem dX7_init_15 : decode cX7_init 15 = .ok (.newarray .int, 2) := by decide +kernel
theorem dX7_init_17 : decode cX7_init 17 = .ok (.putfield 15, 3) := by decide +kernel
theorem dX7_init_20 : decode cX7_init 20 = .ok (.aload_n 0, 1) := by decide +kernel
theorem dX7_init_21 : decode cX7_init 21 = .ok (.iconst 3, 1) := by decide +kernel
theorem dX7_init_22 : decode cX7_init 22 = .ok (.newarray .int, 2) := by decide +kernel
theorem dX7_init_24 : decode cX7_init 24 = .ok (.dup, 1) := by decide +kernel
theorem dX7_init_25 : decode cX7_init 25 = .ok (.iconst 0, 1) := by decide +kernel
theorem dX7_init_26 : decode cX7_init 26 = .ok (.iconst (-1), 1) := by decide +kernel
theorem dX7_init_27 : decode cX7_init 27 = .ok (.iastore, 1) := by decide +kernel
theorem dX7_init_28 : decode cX7_init 28 = .ok (.dup, 1) := by decide +kernel
theorem dX7_init_29 : decode cX7_init 29 = .ok (.iconst 1, 1) := by decide +kernel
theorem dX7_init_30 : decode cX7_init 30 = .ok (.iconst (-1), 1) := by decide +kernel
theorem dX7_init_31 : decode cX7_init 31 = .ok (.iastore, 1) := by decide +kernel
theorem dX7_init_32 : decode cX7_init 32 = .ok (.dup, 1) := by decide +kernel
theorem dX7_init_33 : decode cX7_init 33 = .ok (.iconst 2, 1) := by decide +kernel
theorem dX7_init_34 : decode cX7_init 34 = .ok (.iconst (-1), 1) := by decide +kernel
theorem dX7_init_35 : decode cX7_init 35 = .ok (.iastore, 1) := by decide +kernel
theorem dX7_init_36 : decode cX7_init 36 = .ok (.putfield 18, 3) := by decide +kernel
theorem dX7_init_39 : decode cX7_init 39 = .ok (.aload_n 0, 1) := by decide +kernel
theorem dX7_init_40 : decode cX7_init 40 = .ok (.aload_n 1, 1) := by decide +kernel
theorem dX7_init_41 : decode cX7_init 41 = .ok (.putfield 21, 3) := by decide +kernel
theorem dX7_init_44 : decode cX7_init 44 = .ok (.aload_n 0, 1) := by decide +kernel
theorem dX7_init_45 : decode cX7_init 45 = .ok (.new 25, 3) := by decide +kernel
theorem dX7_init_48 : decode cX7_init 48 = .ok (.dup, 1) := by decide +kernel
theorem dX7_init_49 : decode cX7_init 49 = .ok (.aload_n 1, 1) := by decide +kernel
theorem dX7_init_50 : decode cX7_init 50 = .ok (.invokespecial 27, 3) := by decide +kernel
theorem dX7_init_53 : decode cX7_init 53 = .ok (.putfield 30, 3) := by decide +kernel
theorem dX7_init_56 : decode cX7_init 56 = .ok (.return_, 1) := by decide +kernel
theorem dX7_answer_0 : decode cX7_answer 0 = .ok (.iload_n 2, 1) := by decide +kernel
theorem dX7_answer_1 : decode cX7_answer 1 = .ok (.ifCond .lt 8, 3) := by decide +kernel
theorem dX7_answer_4 : decode cX7_answer 4 = .ok (.iload_n 2, 1) := by decide +kernel
theorem dX7_answer_5 : decode cX7_answer 5 = .ok (.iconst 3, 1) := by decide +kernel
theorem dX7_answer_6 : decode cX7_answer 6 = .ok (.if_icmp .lt 5, 3) := by decide +kernel
theorem dX7_answer_9 : decode cX7_answer 9 = .ok (.iconst (-1), 1) := by decide +kernel
theorem dX7_answer_10 : decode cX7_answer 10 = .ok (.ireturn, 1) := by decide +kernel
theorem dX7_answer_11 : decode cX7_answer 11 = .ok (.aload_n 0, 1) := by decide +kernel
theorem dX7_answer_12 : decode cX7_answer 12 = .ok (.getfield 21, 3) := by decide +kernel
theorem dX7_answer_15 : decode cX7_answer 15 = .ok (.invokevirtual 34, 3) := by decide +kernel
theorem dX7_answer_18 : decode cX7_answer 18 = .ok (.ifCond .ne 19, 3) := by decide +kernel
theorem dX7_answer_21 : decode cX7_answer 21 = .ok (.iload_n 1, 1) := by decide +kernel
theorem dX7_answer_22 : decode cX7_answer 22 = .ok (.iconst 1, 1) := by decide +kernel
theorem dX7_answer_23 : decode cX7_answer 23 = .ok (.if_icmp .ne 17, 3) := by decide +kernel
theorem dX7_answer_26 : decode cX7_answer 26 = .ok (.aload_n 0, 1) := by decide +kernel
theorem dX7_answer_27 : decode cX7_answer 27 = .ok (.getfield 21, 3) := by decide +kernel
theorem dX7_answer_30 : decode cX7_answer 30 = .ok (.getfield 40, 3) := by decide +kernel
theorem dX7_answer_33 : decode cX7_answer 33 = .ok (.iconst 5, 1) := by decide +kernel
theorem dX7_answer_34 : decode cX7_answer 34 = .ok (.if_icmp .le 6, 3) := by decide +kernel
theorem dX7_answer_37 : decode cX7_answer 37 = .ok (.bipush (-5), 2) := by decide +kernel
theorem dX7_answer_39 : decode cX7_answer 39 = .ok (.ireturn, 1) := by decide +kernel
theorem dX7_answer_40 : decode cX7_answer 40 = .ok (.aload_n 0, 1) := by decide +kernel
theorem dX7_answer_41 : decode cX7_answer 41 = .ok (.getfield 18, 3) := by decide +kernel
theorem dX7_answer_44 : decode cX7_answer 44 = .ok (.iload_n 1, 1) := by decide +kernel
theorem dX7_answer_45 : decode cX7_answer 45 = .ok (.iaload, 1) := by decide +kernel
theorem dX7_answer_46 : decode cX7_answer 46 = .ok (.aload_n 0, 1) := by decide +kernel
theorem dX7_answer_47 : decode cX7_answer 47 = .ok (.getfield 21, 3) := by decide +kernel
theorem dX7_answer_50 : decode cX7_answer 50 = .ok (.getfield 44, 3) := by decide +kernel
theorem dX7_answer_53 : decode cX7_answer 53 = .ok (.if_icmp .eq 78, 3) := by decide +kernel
theorem dX7_answer_56 : decode cX7_answer 56 = .ok (.aload_n 0, 1) := by decide +kernel
theorem dX7_answer_57 : decode cX7_answer 57 = .ok (.getfield 15, 3) := by decide +kernel
theorem dX7_answer_60 : decode cX7_answer 60 = .ok (.iload_n 1, 1) := by decide +kernel
theorem dX7_answer_61 : decode cX7_answer 61 = .ok (.iconst 3, 1) := by decide +kernel
theorem dX7_answer_62 : decode cX7_answer 62 = .ok (.imul, 1) := by decide +kernel
theorem dX7_answer_63 : decode cX7_answer 63 = .ok (.bipush (-2), 2) := by decide +kernel
theorem dX7_answer_65 : decode cX7_answer 65 = .ok (.iastore, 1) := by decide +kernel
theorem dX7_answer_66 : decode cX7_answer 66 = .ok (.aload_n 0, 1) := by decide +kernel
theorem dX7_answer_67 : decode cX7_answer 67 = .ok (.getfield 9, 3) := by decide +kernel
theorem dX7_answer_70 : decode cX7_answer 70 = .ok (.invokestatic 46, 3) := by decide +kernel
theorem dX7_answer_73 : decode cX7_answer 73 = .ok (.iload_n 1, 1) := by decide +kernel
theorem dX7_answer_74 : decode cX7_answer 74 = .ok (.lookupswitch 40 #[(0, 26), (1, 33)], 26) := by decide +kernel
theorem dX7_answer_100 : decode cX7_answer 100 = .ok (.aload_n 0, 1) := by decide +kernel
theorem dX7_answer_101 : decode cX7_answer 101 = .ok (.invokevirtual 50, 3) := by decide +kernel
theorem dX7_answer_104 : decode cX7_answer 104 = .ok (.goto 14, 3) := by decide +kernel
theorem dX7_answer_107 : decode cX7_answer 107 = .ok (.aload_n 0, 1) := by decide +kernel
theorem dX7_answer_108 : decode cX7_answer 108 = .ok (.invokevirtual 53, 3) := by decide +kernel
theorem dX7_answer_111 : decode cX7_answer 111 = .ok (.goto 7, 3) := by decide +kernel
theorem dX7_answer_114 : decode cX7_answer 114 = .ok (.aload_n 0, 1) := by decide +kernel
theorem dX7_answer_115 : decode cX7_answer 115 = .ok (.invokevirtual 56, 3) := by decide +kernel
theorem dX7_answer_118 : decode cX7_answer 118 = .ok (.aload_n 0, 1) := by decide +kernel
theorem dX7_answer_119 : decode cX7_answer 119 = .ok (.getfield 18, 3) := by decide +kernel
theorem dX7_answer_122 : decode cX7_answer 122 = .ok (.iload_n 1, 1) := by decide +kernel
theorem dX7_answer_123 : decode cX7_answer 123 = .ok (.aload_n 0, 1) := by decide +kernel
theorem dX7_answer_124 : decode cX7_answer 124 = .ok (.getfield 21, 3) := by decide +kernel
theorem dX7_answer_127 : decode cX7_answer 127 = .ok (.getfield 44, 3) := by decide +kernel
theorem dX7_answer_130 : decode cX7_answer 130 = .ok (.iastore, 1) := by decide +kernel
theorem dX7_answer_131 : decode cX7_answer 131 = .ok (.aload_n 0, 1) := by decide +kernel
theorem dX7_answer_132 : decode cX7_answer 132 = .ok (.getfield 15, 3) := by decide +kernel
theorem dX7_answer_135 : decode cX7_answer 135 = .ok (.iload_n 1, 1) := by decide +kernel
theorem dX7_answer_136 : decode cX7_answer 136 = .ok (.iconst 3, 1) := by decide +kernel
theorem dX7_answer_137 : decode cX7_answer 137 = .ok (.imul, 1) := by decide +kernel
theorem dX7_answer_138 : decode cX7_answer 138 = .ok (.iload_n 2, 1) := by decide +kernel
theorem dX7_answer_139 : decode cX7_answer 139 = .ok (.iadd, 1) := by decide +kernel
theorem dX7_answer_140 : decode cX7_answer 140 = .ok (.iaload, 1) := by decide +kernel
theorem dX7_answer_141 : decode cX7_answer 141 = .ok (.ireturn, 1) := by decide +kernel
theorem dX7_tryRules_0 : decode cX7_tryRules 0 = .ok (.iconst 0, 1) := by decide +kernel
theorem dX7_tryRules_1 : decode cX7_tryRules 1 = .ok (.istore_n 1, 1) := by decide +kernel
theorem dX7_tryRules_2 : decode cX7_tryRules 2 = .ok (.iload_n 1, 1) := by decide +kernel
theorem dX7_tryRules_3 : decode cX7_tryRules 3 = .ok (.bipush 6, 2) := by decide +kernel
theorem dX7_tryRules_5 : decode cX7_tryRules 5 = .ok (.if_icmp .ge 37, 3) := by decide +kernel
theorem dX7_tryRules_8 : decode cX7_tryRules 8 = .ok (.aload_n 0, 1) := by decide +kernel
theorem dX7_tryRules_9 : decode cX7_tryRules 9 = .ok (.getfield 30, 3) := by decide +kernel
theorem dX7_tryRules_12 : decode cX7_tryRules 12 = .ok (.aload_n 0, 1) := by decide +kernel
theorem dX7_tryRules_13 : decode cX7_tryRules 13 = .ok (.getfield 9, 3) := by decide +kernel
theorem dX7_tryRules_16 : decode cX7_tryRules 16 = .ok (.iload_n 1, 1) := by decide +kernel
theorem dX7_tryRules_17 : decode cX7_tryRules 17 = .ok (.aload_n 0, 1) := by decide +kernel
theorem dX7_tryRules_18 : decode cX7_tryRules 18 = .ok (.getfield 21, 3) := by decide +kernel
theorem dX7_tryRules_21 : decode cX7_tryRules 21 = .ok (.getfield 59, 3) := by decide +kernel
theorem dX7_tryRules_24 : decode cX7_tryRules 24 = .ok (.iconst 2, 1) := by decide +kernel
theorem dX7_tryRules_25 : decode cX7_tryRules 25 = .ok (.iaload, 1) := by decide +kernel
theorem dX7_tryRules_26 : decode cX7_tryRules 26 = .ok (.iconst (-1), 1) := by decide +kernel
theorem dX7_tryRules_27 : decode cX7_tryRules 27 = .ok (.invokevirtual 62, 3) := by decide +kernel
theorem dX7_tryRules_30 : decode cX7_tryRules 30 = .ok (.aload_n 0, 1) := by decide +kernel
theorem dX7_tryRules_31 : decode cX7_tryRules 31 = .ok (.iconst 0, 1) := by decide +kernel
theorem dX7_tryRules_32 : decode cX7_tryRules 32 = .ok (.iload_n 1, 1) := by decide +kernel
theorem dX7_tryRules_33 : decode cX7_tryRules 33 = .ok (.invokevirtual 66, 3) := by decide +kernel
theorem dX7_tryRules_36 : decode cX7_tryRules 36 = .ok (.iinc 1 1, 3) := by decide +kernel
theorem dX7_tryRules_39 : decode cX7_tryRules 39 = .ok (.goto (-37), 3) := by decide +kernel
theorem dX7_tryRules_42 : decode cX7_tryRules 42 = .ok (.return_, 1) := by decide +kernel
theorem dX7_tryTimers_0 : decode cX7_tryTimers 0 = .ok (.iconst 1, 1) := by decide +kernel
theorem dX7_tryTimers_1 : decode cX7_tryTimers 1 = .ok (.istore_n 1, 1) := by decide +kernel
theorem dX7_tryTimers_2 : decode cX7_tryTimers 2 = .ok (.iload_n 1, 1) := by decide +kernel
theorem dX7_tryTimers_3 : decode cX7_tryTimers 3 = .ok (.bipush 9, 2) := by decide +kernel
theorem dX7_tryTimers_5 : decode cX7_tryTimers 5 = .ok (.if_icmp .gt 37, 3) := by decide +kernel
theorem dX7_tryTimers_8 : decode cX7_tryTimers 8 = .ok (.aload_n 0, 1) := by decide +kernel
theorem dX7_tryTimers_9 : decode cX7_tryTimers 9 = .ok (.getfield 30, 3) := by decide +kernel
theorem dX7_tryTimers_12 : decode cX7_tryTimers 12 = .ok (.aload_n 0, 1) := by decide +kernel
theorem dX7_tryTimers_13 : decode cX7_tryTimers 13 = .ok (.getfield 9, 3) := by decide +kernel
theorem dX7_tryTimers_16 : decode cX7_tryTimers 16 = .ok (.aload_n 0, 1) := by decide +kernel
theorem dX7_tryTimers_17 : decode cX7_tryTimers 17 = .ok (.getfield 21, 3) := by decide +kernel
theorem dX7_tryTimers_20 : decode cX7_tryTimers 20 = .ok (.getfield 59, 3) := by decide +kernel
theorem dX7_tryTimers_23 : decode cX7_tryTimers 23 = .ok (.iconst 0, 1) := by decide +kernel
theorem dX7_tryTimers_24 : decode cX7_tryTimers 24 = .ok (.iaload, 1) := by decide +kernel
theorem dX7_tryTimers_25 : decode cX7_tryTimers 25 = .ok (.iload_n 1, 1) := by decide +kernel
theorem dX7_tryTimers_26 : decode cX7_tryTimers 26 = .ok (.iconst (-1), 1) := by decide +kernel
theorem dX7_tryTimers_27 : decode cX7_tryTimers 27 = .ok (.invokevirtual 62, 3) := by decide +kernel
theorem dX7_tryTimers_30 : decode cX7_tryTimers 30 = .ok (.aload_n 0, 1) := by decide +kernel
theorem dX7_tryTimers_31 : decode cX7_tryTimers 31 = .ok (.iconst 2, 1) := by decide +kernel
theorem dX7_tryTimers_32 : decode cX7_tryTimers 32 = .ok (.iload_n 1, 1) := by decide +kernel
theorem dX7_tryTimers_33 : decode cX7_tryTimers 33 = .ok (.invokevirtual 66, 3) := by decide +kernel
theorem dX7_tryTimers_36 : decode cX7_tryTimers 36 = .ok (.iinc 1 1, 3) := by decide +kernel
theorem dX7_tryTimers_39 : decode cX7_tryTimers 39 = .ok (.goto (-37), 3) := by decide +kernel
theorem dX7_tryTimers_42 : decode cX7_tryTimers 42 = .ok (.return_, 1) := by decide +kernel
theorem dX7_tryOrders_0 : decode cX7_tryOrders 0 = .ok (.iconst 1, 1) := by decide +kernel
theorem dX7_tryOrders_1 : decode cX7_tryOrders 1 = .ok (.istore_n 1, 1) := by decide +kernel
theorem dX7_tryOrders_2 : decode cX7_tryOrders 2 = .ok (.iconst 0, 1) := by decide +kernel
theorem dX7_tryOrders_3 : decode cX7_tryOrders 3 = .ok (.istore_n 2, 1) := by decide +kernel
theorem dX7_tryOrders_4 : decode cX7_tryOrders 4 = .ok (.iload_n 2, 1) := by decide +kernel
theorem dX7_tryOrders_5 : decode cX7_tryOrders 5 = .ok (.bipush 120, 2) := by decide +kernel
theorem dX7_tryOrders_7 : decode cX7_tryOrders 7 = .ok (.if_icmp .ge 57, 3) := by decide +kernel
theorem dX7_tryOrders_10 : decode cX7_tryOrders 10 = .ok (.iload_n 1, 1) := by decide +kernel
theorem dX7_tryOrders_11 : decode cX7_tryOrders 11 = .ok (.ifCond .eq 53, 3) := by decide +kernel
theorem dX7_tryOrders_14 : decode cX7_tryOrders 14 = .ok (.aload_n 0, 1) := by decide +kernel
theorem dX7_tryOrders_15 : decode cX7_tryOrders 15 = .ok (.getfield 30, 3) := by decide +kernel
theorem dX7_tryOrders_18 : decode cX7_tryOrders 18 = .ok (.aload_n 0, 1) := by decide +kernel
theorem dX7_tryOrders_19 : decode cX7_tryOrders 19 = .ok (.getfield 9, 3) := by decide +kernel
theorem dX7_tryOrders_22 : decode cX7_tryOrders 22 = .ok (.aload_n 0, 1) := by decide +kernel
theorem dX7_tryOrders_23 : decode cX7_tryOrders 23 = .ok (.getfield 21, 3) := by decide +kernel
theorem dX7_tryOrders_26 : decode cX7_tryOrders 26 = .ok (.getfield 59, 3) := by decide +kernel
theorem dX7_tryOrders_29 : decode cX7_tryOrders 29 = .ok (.iconst 0, 1) := by decide +kernel
theorem dX7_tryOrders_30 : decode cX7_tryOrders 30 = .ok (.iaload, 1) := by decide +kernel
theorem dX7_tryOrders_31 : decode cX7_tryOrders 31 = .ok (.aload_n 0, 1) := by decide +kernel
theorem dX7_tryOrders_32 : decode cX7_tryOrders 32 = .ok (.getfield 21, 3) := by decide +kernel
theorem dX7_tryOrders_35 : decode cX7_tryOrders 35 = .ok (.getfield 59, 3) := by decide +kernel
theorem dX7_tryOrders_38 : decode cX7_tryOrders 38 = .ok (.iconst 2, 1) := by decide +kernel
theorem dX7_tryOrders_39 : decode cX7_tryOrders 39 = .ok (.iaload, 1) := by decide +kernel
theorem dX7_tryOrders_40 : decode cX7_tryOrders 40 = .ok (.iconst (-1), 1) := by decide +kernel
theorem dX7_tryOrders_41 : decode cX7_tryOrders 41 = .ok (.invokevirtual 62, 3) := by decide +kernel
theorem dX7_tryOrders_44 : decode cX7_tryOrders 44 = .ok (.aload_n 0, 1) := by decide +kernel
theorem dX7_tryOrders_45 : decode cX7_tryOrders 45 = .ok (.iconst 1, 1) := by decide +kernel
theorem dX7_tryOrders_46 : decode cX7_tryOrders 46 = .ok (.aload_n 0, 1) := by decide +kernel
theorem dX7_tryOrders_47 : decode cX7_tryOrders 47 = .ok (.invokevirtual 70, 3) := by decide +kernel
theorem dX7_tryOrders_50 : decode cX7_tryOrders 50 = .ok (.invokevirtual 66, 3) := by decide +kernel
theorem dX7_tryOrders_53 : decode cX7_tryOrders 53 = .ok (.aload_n 0, 1) := by decide +kernel
theorem dX7_tryOrders_54 : decode cX7_tryOrders 54 = .ok (.invokevirtual 74, 3) := by decide +kernel
theorem dX7_tryOrders_57 : decode cX7_tryOrders 57 = .ok (.istore_n 1, 1) := by decide +kernel
theorem dX7_tryOrders_58 : decode cX7_tryOrders 58 = .ok (.iinc 2 1, 3) := by decide +kernel
theorem dX7_tryOrders_61 : decode cX7_tryOrders 61 = .ok (.goto (-57), 3) := by decide +kernel
theorem dX7_tryOrders_64 : decode cX7_tryOrders 64 = .ok (.return_, 1) := by decide +kernel
theorem dX7_compare_0 : decode cX7_compare 0 = .ok (.iload_n 1, 1) := by decide +kernel
theorem dX7_compare_1 : decode cX7_compare 1 = .ok (.iconst 3, 1) := by decide +kernel
theorem dX7_compare_2 : decode cX7_compare 2 = .ok (.imul, 1) := by decide +kernel
theorem dX7_compare_3 : decode cX7_compare 3 = .ok (.istore_n 3, 1) := by decide +kernel
theorem dX7_compare_4 : decode cX7_compare 4 = .ok (.aload_n 0, 1) := by decide +kernel
theorem dX7_compare_5 : decode cX7_compare 5 = .ok (.getfield 30, 3) := by decide +kernel
theorem dX7_compare_8 : decode cX7_compare 8 = .ok (.invokevirtual 77, 3) := by decide +kernel
theorem dX7_compare_11 : decode cX7_compare 11 = .ok (.invokestatic 80, 3) := by decide +kernel
theorem dX7_compare_14 : decode cX7_compare 14 = .ok (.istore 4, 2) := by decide +kernel
theorem dX7_compare_16 : decode cX7_compare 16 = .ok (.aload_n 0, 1) := by decide +kernel
theorem dX7_compare_17 : decode cX7_compare 17 = .ok (.getfield 30, 3) := by decide +kernel
theorem dX7_compare_20 : decode cX7_compare 20 = .ok (.invokevirtual 86, 3) := by decide +kernel
theorem dX7_compare_23 : decode cX7_compare 23 = .ok (.istore 5, 2) := by decide +kernel
theorem dX7_compare_25 : decode cX7_compare 25 = .ok (.aload_n 0, 1) := by decide +kernel
theorem dX7_compare_26 : decode cX7_compare 26 = .ok (.getfield 15, 3) := by decide +kernel
theorem dX7_compare_29 : decode cX7_compare 29 = .ok (.iload_n 3, 1) := by decide +kernel
theorem dX7_compare_30 : decode cX7_compare 30 = .ok (.iaload, 1) := by decide +kernel
theorem dX7_compare_31 : decode cX7_compare 31 = .ok (.bipush (-2), 2) := by decide +kernel
theorem dX7_compare_33 : decode cX7_compare 33 = .ok (.if_icmp .eq 42, 3) := by decide +kernel
theorem dX7_compare_36 : decode cX7_compare 36 = .ok (.iload 4, 2) := by decide +kernel
theorem dX7_compare_38 : decode cX7_compare 38 = .ok (.aload_n 0, 1) := by decide +kernel
theorem dX7_compare_39 : decode cX7_compare 39 = .ok (.getfield 15, 3) := by decide +kernel
theorem dX7_compare_42 : decode cX7_compare 42 = .ok (.iload_n 3, 1) := by decide +kernel
theorem dX7_compare_43 : decode cX7_compare 43 = .ok (.iconst 1, 1) := by decide +kernel
theorem dX7_compare_44 : decode cX7_compare 44 = .ok (.iadd, 1) := by decide +kernel
theorem dX7_compare_45 : decode cX7_compare 45 = .ok (.iaload, 1) := by decide +kernel
theorem dX7_compare_46 : decode cX7_compare 46 = .ok (.if_icmp .lt 29, 3) := by decide +kernel
theorem dX7_compare_49 : decode cX7_compare 49 = .ok (.iload 4, 2) := by decide +kernel
theorem dX7_compare_51 : decode cX7_compare 51 = .ok (.aload_n 0, 1) := by decide +kernel
theorem dX7_compare_52 : decode cX7_compare 52 = .ok (.getfield 15, 3) := by decide +kernel
theorem dX7_compare_55 : decode cX7_compare 55 = .ok (.iload_n 3, 1) := by decide +kernel
theorem dX7_compare_56 : decode cX7_compare 56 = .ok (.iconst 1, 1) := by decide +kernel
theorem dX7_compare_57 : decode cX7_compare 57 = .ok (.iadd, 1) := by decide +kernel
theorem dX7_compare_58 : decode cX7_compare 58 = .ok (.iaload, 1) := by decide +kernel
theorem dX7_compare_59 : decode cX7_compare 59 = .ok (.if_icmp .ne 43, 3) := by decide +kernel
theorem dX7_compare_62 : decode cX7_compare 62 = .ok (.iload 5, 2) := by decide +kernel
theorem dX7_compare_64 : decode cX7_compare 64 = .ok (.aload_n 0, 1) := by decide +kernel
theorem dX7_compare_65 : decode cX7_compare 65 = .ok (.getfield 15, 3) := by decide +kernel
theorem dX7_compare_68 : decode cX7_compare 68 = .ok (.iload_n 3, 1) := by decide +kernel
theorem dX7_compare_69 : decode cX7_compare 69 = .ok (.iconst 2, 1) := by decide +kernel
theorem dX7_compare_70 : decode cX7_compare 70 = .ok (.iadd, 1) := by decide +kernel
theorem dX7_compare_71 : decode cX7_compare 71 = .ok (.iaload, 1) := by decide +kernel
theorem dX7_compare_72 : decode cX7_compare 72 = .ok (.if_icmp .ge 30, 3) := by decide +kernel
theorem dX7_compare_75 : decode cX7_compare 75 = .ok (.aload_n 0, 1) := by decide +kernel
theorem dX7_compare_76 : decode cX7_compare 76 = .ok (.getfield 15, 3) := by decide +kernel
theorem dX7_compare_79 : decode cX7_compare 79 = .ok (.iload_n 3, 1) := by decide +kernel
theorem dX7_compare_80 : decode cX7_compare 80 = .ok (.iload_n 2, 1) := by decide +kernel
theorem dX7_compare_81 : decode cX7_compare 81 = .ok (.iastore, 1) := by decide +kernel
theorem dX7_compare_82 : decode cX7_compare 82 = .ok (.aload_n 0, 1) := by decide +kernel
theorem dX7_compare_83 : decode cX7_compare 83 = .ok (.getfield 15, 3) := by decide +kernel
theorem dX7_compare_86 : decode cX7_compare 86 = .ok (.iload_n 3, 1) := by decide +kernel
theorem dX7_compare_87 : decode cX7_compare 87 = .ok (.iconst 1, 1) := by decide +kernel
theorem dX7_compare_88 : decode cX7_compare 88 = .ok (.iadd, 1) := by decide +kernel
theorem dX7_compare_89 : decode cX7_compare 89 = .ok (.iload 4, 2) := by decide +kernel
theorem dX7_compare_91 : decode cX7_compare 91 = .ok (.iastore, 1) := by decide +kernel
theorem dX7_compare_92 : decode cX7_compare 92 = .ok (.aload_n 0, 1) := by decide +kernel
theorem dX7_compare_93 : decode cX7_compare 93 = .ok (.getfield 15, 3) := by decide +kernel
theorem dX7_compare_96 : decode cX7_compare 96 = .ok (.iload_n 3, 1) := by decide +kernel
theorem dX7_compare_97 : decode cX7_compare 97 = .ok (.iconst 2, 1) := by decide +kernel
theorem dX7_compare_98 : decode cX7_compare 98 = .ok (.iadd, 1) := by decide +kernel
theorem dX7_compare_99 : decode cX7_compare 99 = .ok (.iload 5, 2) := by decide +kernel
theorem dX7_compare_101 : decode cX7_compare 101 = .ok (.iastore, 1) := by decide +kernel
theorem dX7_compare_102 : decode cX7_compare 102 = .ok (.return_, 1) := by decide +kernel
theorem dX7_digits_0 : decode cX7_digits 0 = .ok (.iconst 0, 1) := by decide +kernel
theorem dX7_digits_1 : decode cX7_digits 1 = .ok (.istore_n 1, 1) := by decide +kernel
theorem dX7_digits_2 : decode cX7_digits 2 = .ok (.iconst 0, 1) := by decide +kernel
theorem dX7_digits_3 : decode cX7_digits 3 = .ok (.istore_n 2, 1) := by decide +kernel
theorem dX7_digits_4 : decode cX7_digits 4 = .ok (.iload_n 2, 1) := by decide +kernel
theorem dX7_digits_5 : decode cX7_digits 5 = .ok (.aload_n 0, 1) := by decide +kernel
theorem dX7_digits_6 : decode cX7_digits 6 = .ok (.getfield 21, 3) := by decide +kernel
theorem dX7_digits_9 : decode cX7_digits 9 = .ok (.getfield 40, 3) := by decide +kernel
theorem dX7_digits_12 : decode cX7_digits 12 = .ok (.if_icmp .ge 23, 3) := by decide +kernel
theorem dX7_digits_15 : decode cX7_digits 15 = .ok (.iload_n 1, 1) := by decide +kernel
theorem dX7_digits_16 : decode cX7_digits 16 = .ok (.bipush 10, 2) := by decide +kernel
theorem dX7_digits_18 : decode cX7_digits 18 = .ok (.imul, 1) := by decide +kernel
theorem dX7_digits_19 : decode cX7_digits 19 = .ok (.aload_n 0, 1) := by decide +kernel
theorem dX7_digits_20 : decode cX7_digits 20 = .ok (.getfield 9, 3) := by decide +kernel
theorem dX7_digits_23 : decode cX7_digits 23 = .ok (.iload_n 2, 1) := by decide +kernel
theorem dX7_digits_24 : decode cX7_digits 24 = .ok (.iaload, 1) := by decide +kernel
theorem dX7_digits_25 : decode cX7_digits 25 = .ok (.iadd, 1) := by decide +kernel
theorem dX7_digits_26 : decode cX7_digits 26 = .ok (.iconst 1, 1) := by decide +kernel
theorem dX7_digits_27 : decode cX7_digits 27 = .ok (.iadd, 1) := by decide +kernel
theorem dX7_digits_28 : decode cX7_digits 28 = .ok (.istore_n 1, 1) := by decide +kernel
theorem dX7_digits_29 : decode cX7_digits 29 = .ok (.iinc 2 1, 3) := by decide +kernel
theorem dX7_digits_32 : decode cX7_digits 32 = .ok (.goto (-28), 3) := by decide +kernel
theorem dX7_digits_35 : decode cX7_digits 35 = .ok (.iload_n 1, 1) := by decide +kernel
theorem dX7_digits_36 : decode cX7_digits 36 = .ok (.ireturn, 1) := by decide +kernel
theorem dX7_nextOrder_0 : decode cX7_nextOrder 0 = .ok (.aload_n 0, 1) := by decide +kernel
theorem dX7_nextOrder_1 : decode cX7_nextOrder 1 = .ok (.getfield 21, 3) := by decide +kernel
theorem dX7_nextOrder_4 : decode cX7_nextOrder 4 = .ok (.getfield 40, 3) := by decide +kernel
theorem dX7_nextOrder_7 : decode cX7_nextOrder 7 = .ok (.iconst 2, 1) := by decide +kernel
theorem dX7_nextOrder_8 : decode cX7_nextOrder 8 = .ok (.isub, 1) := by decide +kernel
theorem dX7_nextOrder_9 : decode cX7_nextOrder 9 = .ok (.istore_n 1, 1) := by decide +kernel
theorem dX7_nextOrder_10 : decode cX7_nextOrder 10 = .ok (.iload_n 1, 1) := by decide +kernel
theorem dX7_nextOrder_11 : decode cX7_nextOrder 11 = .ok (.ifCond .lt 26, 3) := by decide +kernel
theorem dX7_nextOrder_14 : decode cX7_nextOrder 14 = .ok (.aload_n 0, 1) := by decide +kernel
theorem dX7_nextOrder_15 : decode cX7_nextOrder 15 = .ok (.getfield 9, 3) := by decide +kernel
theorem dX7_nextOrder_18 : decode cX7_nextOrder 18 = .ok (.iload_n 1, 1) := by decide +kernel
theorem dX7_nextOrder_19 : decode cX7_nextOrder 19 = .ok (.iaload, 1) := by decide +kernel
theorem dX7_nextOrder_20 : decode cX7_nextOrder 20 = .ok (.aload_n 0, 1) := by decide +kernel
theorem dX7_nextOrder_21 : decode cX7_nextOrder 21 = .ok (.getfield 9, 3) := by decide +kernel
theorem dX7_nextOrder_24 : decode cX7_nextOrder 24 = .ok (.iload_n 1, 1) := by decide +kernel
theorem dX7_nextOrder_25 : decode cX7_nextOrder 25 = .ok (.iconst 1, 1) := by decide +kernel
theorem dX7_nextOrder_26 : decode cX7_nextOrder 26 = .ok (.iadd, 1) := by decide +kernel
theorem dX7_nextOrder_27 : decode cX7_nextOrder 27 = .ok (.iaload, 1) := by decide +kernel
theorem dX7_nextOrder_28 : decode cX7_nextOrder 28 = .ok (.if_icmp .le 9, 3) := by decide +kernel
theorem dX7_nextOrder_31 : decode cX7_nextOrder 31 = .ok (.iinc 1 (-1), 3) := by decide +kernel
theorem dX7_nextOrder_34 : decode cX7_nextOrder 34 = .ok (.goto (-24), 3) := by decide +kernel
theorem dX7_nextOrder_37 : decode cX7_nextOrder 37 = .ok (.iload_n 1, 1) := by decide +kernel
theorem dX7_nextOrder_38 : decode cX7_nextOrder 38 = .ok (.ifCond .ge 5, 3) := by decide +kernel
theorem dX7_nextOrder_41 : decode cX7_nextOrder 41 = .ok (.iconst 0, 1) := by decide +kernel
theorem dX7_nextOrder_42 : decode cX7_nextOrder 42 = .ok (.ireturn, 1) := by decide +kernel
theorem dX7_nextOrder_43 : decode cX7_nextOrder 43 = .ok (.aload_n 0, 1) := by decide +kernel
theorem dX7_nextOrder_44 : decode cX7_nextOrder 44 = .ok (.getfield 21, 3) := by decide +kernel
theorem dX7_nextOrder_47 : decode cX7_nextOrder 47 = .ok (.getfield 40, 3) := by decide +kernel
theorem dX7_nextOrder_50 : decode cX7_nextOrder 50 = .ok (.iconst 1, 1) := by decide +kernel
theorem dX7_nextOrder_51 : decode cX7_nextOrder 51 = .ok (.isub, 1) := by decide +kernel
theorem dX7_nextOrder_52 : decode cX7_nextOrder 52 = .ok (.istore_n 2, 1) := by decide +kernel
theorem dX7_nextOrder_53 : decode cX7_nextOrder 53 = .ok (.iload_n 2, 1) := by decide +kernel
theorem dX7_nextOrder_54 : decode cX7_nextOrder 54 = .ok (.iload_n 1, 1) := by decide +kernel
theorem dX7_nextOrder_55 : decode cX7_nextOrder 55 = .ok (.if_icmp .le 24, 3) := by decide +kernel
theorem dX7_nextOrder_58 : decode cX7_nextOrder 58 = .ok (.aload_n 0, 1) := by decide +kernel
theorem dX7_nextOrder_59 : decode cX7_nextOrder 59 = .ok (.getfield 9, 3) := by decide +kernel
theorem dX7_nextOrder_62 : decode cX7_nextOrder 62 = .ok (.iload_n 2, 1) := by decide +kernel
theorem dX7_nextOrder_63 : decode cX7_nextOrder 63 = .ok (.iaload, 1) := by decide +kernel
theorem dX7_nextOrder_64 : decode cX7_nextOrder 64 = .ok (.aload_n 0, 1) := by decide +kernel
theorem dX7_nextOrder_65 : decode cX7_nextOrder 65 = .ok (.getfield 9, 3) := by decide +kernel
theorem dX7_nextOrder_68 : decode cX7_nextOrder 68 = .ok (.iload_n 1, 1) := by decide +kernel
theorem dX7_nextOrder_69 : decode cX7_nextOrder 69 = .ok (.iaload, 1) := by decide +kernel
theorem dX7_nextOrder_70 : decode cX7_nextOrder 70 = .ok (.if_icmp .ge 9, 3) := by decide +kernel
theorem dX7_nextOrder_73 : decode cX7_nextOrder 73 = .ok (.iinc 2 (-1), 3) := by decide +kernel
theorem dX7_nextOrder_76 : decode cX7_nextOrder 76 = .ok (.goto (-23), 3) := by decide +kernel
theorem dX7_nextOrder_79 : decode cX7_nextOrder 79 = .ok (.aload_n 0, 1) := by decide +kernel
theorem dX7_nextOrder_80 : decode cX7_nextOrder 80 = .ok (.iload_n 1, 1) := by decide +kernel
theorem dX7_nextOrder_81 : decode cX7_nextOrder 81 = .ok (.iload_n 2, 1) := by decide +kernel
theorem dX7_nextOrder_82 : decode cX7_nextOrder 82 = .ok (.invokevirtual 89, 3) := by decide +kernel
theorem dX7_nextOrder_85 : decode cX7_nextOrder 85 = .ok (.iload_n 1, 1) := by decide +kernel
theorem dX7_nextOrder_86 : decode cX7_nextOrder 86 = .ok (.iconst 1, 1) := by decide +kernel
theorem dX7_nextOrder_87 : decode cX7_nextOrder 87 = .ok (.iadd, 1) := by decide +kernel
theorem dX7_nextOrder_88 : decode cX7_nextOrder 88 = .ok (.istore_n 3, 1) := by decide +kernel
theorem dX7_nextOrder_89 : decode cX7_nextOrder 89 = .ok (.aload_n 0, 1) := by decide +kernel
theorem dX7_nextOrder_90 : decode cX7_nextOrder 90 = .ok (.getfield 21, 3) := by decide +kernel
theorem dX7_nextOrder_93 : decode cX7_nextOrder 93 = .ok (.getfield 40, 3) := by decide +kernel
theorem dX7_nextOrder_96 : decode cX7_nextOrder 96 = .ok (.iconst 1, 1) := by decide +kernel
theorem dX7_nextOrder_97 : decode cX7_nextOrder 97 = .ok (.isub, 1) := by decide +kernel
theorem dX7_nextOrder_98 : decode cX7_nextOrder 98 = .ok (.istore 4, 2) := by decide +kernel
theorem dX7_nextOrder_100 : decode cX7_nextOrder 100 = .ok (.iload_n 3, 1) := by decide +kernel
theorem dX7_nextOrder_101 : decode cX7_nextOrder 101 = .ok (.iload 4, 2) := by decide +kernel
theorem dX7_nextOrder_103 : decode cX7_nextOrder 103 = .ok (.if_icmp .ge 19, 3) := by decide +kernel
theorem dX7_nextOrder_106 : decode cX7_nextOrder 106 = .ok (.aload_n 0, 1) := by decide +kernel
theorem dX7_nextOrder_107 : decode cX7_nextOrder 107 = .ok (.iload_n 3, 1) := by decide +kernel
theorem dX7_nextOrder_108 : decode cX7_nextOrder 108 = .ok (.iload 4, 2) := by decide +kernel
theorem dX7_nextOrder_110 : decode cX7_nextOrder 110 = .ok (.invokevirtual 89, 3) := by decide +kernel
theorem dX7_nextOrder_113 : decode cX7_nextOrder 113 = .ok (.iinc 3 1, 3) := by decide +kernel
theorem dX7_nextOrder_116 : decode cX7_nextOrder 116 = .ok (.iinc 4 (-1), 3) := by decide +kernel
theorem dX7_nextOrder_119 : decode cX7_nextOrder 119 = .ok (.goto (-19), 3) := by decide +kernel
theorem dX7_nextOrder_122 : decode cX7_nextOrder 122 = .ok (.iconst 1, 1) := by decide +kernel
theorem dX7_nextOrder_123 : decode cX7_nextOrder 123 = .ok (.ireturn, 1) := by decide +kernel
theorem dX7_swap_0 : decode cX7_swap 0 = .ok (.aload_n 0, 1) := by decide +kernel
theorem dX7_swap_1 : decode cX7_swap 1 = .ok (.getfield 9, 3) := by decide +kernel
theorem dX7_swap_4 : decode cX7_swap 4 = .ok (.iload_n 1, 1) := by decide +kernel
theorem dX7_swap_5 : decode cX7_swap 5 = .ok (.iaload, 1) := by decide +kernel
theorem dX7_swap_6 : decode cX7_swap 6 = .ok (.istore_n 3, 1) := by decide +kernel
theorem dX7_swap_7 : decode cX7_swap 7 = .ok (.aload_n 0, 1) := by decide +kernel
theorem dX7_swap_8 : decode cX7_swap 8 = .ok (.getfield 9, 3) := by decide +kernel
theorem dX7_swap_11 : decode cX7_swap 11 = .ok (.iload_n 1, 1) := by decide +kernel
theorem dX7_swap_12 : decode cX7_swap 12 = .ok (.aload_n 0, 1) := by decide +kernel
theorem dX7_swap_13 : decode cX7_swap 13 = .ok (.getfield 9, 3) := by decide +kernel
theorem dX7_swap_16 : decode cX7_swap 16 = .ok (.iload_n 2, 1) := by decide +kernel
theorem dX7_swap_17 : decode cX7_swap 17 = .ok (.iaload, 1) := by decide +kernel
theorem dX7_swap_18 : decode cX7_swap 18 = .ok (.iastore, 1) := by decide +kernel
theorem dX7_swap_19 : decode cX7_swap 19 = .ok (.aload_n 0, 1) := by decide +kernel
theorem dX7_swap_20 : decode cX7_swap 20 = .ok (.getfield 9, 3) := by decide +kernel
theorem dX7_swap_23 : decode cX7_swap 23 = .ok (.iload_n 2, 1) := by decide +kernel
theorem dX7_swap_24 : decode cX7_swap 24 = .ok (.iload_n 3, 1) := by decide +kernel
theorem dX7_swap_25 : decode cX7_swap 25 = .ok (.iastore, 1) := by decide +kernel
theorem dX7_swap_26 : decode cX7_swap 26 = .ok (.return_, 1) := by decide +kernel
theorem dX7_rulesOf_0 : decode cX7_rulesOf 0 = .ok (.iconst 0, 1) := by decide +kernel
theorem dX7_rulesOf_1 : decode cX7_rulesOf 1 = .ok (.istore_n 2, 1) := by decide +kernel
theorem dX7_rulesOf_2 : decode cX7_rulesOf 2 = .ok (.aload_n 0, 1) := by decide +kernel
theorem dX7_rulesOf_3 : decode cX7_rulesOf 3 = .ok (.getfield 9, 3) := by decide +kernel
theorem dX7_rulesOf_6 : decode cX7_rulesOf 6 = .ok (.invokestatic 46, 3) := by decide +kernel
theorem dX7_rulesOf_9 : decode cX7_rulesOf 9 = .ok (.iconst 0, 1) := by decide +kernel
theorem dX7_rulesOf_10 : decode cX7_rulesOf 10 = .ok (.istore_n 3, 1) := by decide +kernel
theorem dX7_rulesOf_11 : decode cX7_rulesOf 11 = .ok (.iload_n 3, 1) := by decide +kernel
theorem dX7_rulesOf_12 : decode cX7_rulesOf 12 = .ok (.bipush 6, 2) := by decide +kernel
theorem dX7_rulesOf_14 : decode cX7_rulesOf 14 = .ok (.if_icmp .ge 49, 3) := by decide +kernel
theorem dX7_rulesOf_17 : decode cX7_rulesOf 17 = .ok (.aload_n 0, 1) := by decide +kernel
theorem dX7_rulesOf_18 : decode cX7_rulesOf 18 = .ok (.getfield 30, 3) := by decide +kernel
theorem dX7_rulesOf_21 : decode cX7_rulesOf 21 = .ok (.aload_n 0, 1) := by decide +kernel
theorem dX7_rulesOf_22 : decode cX7_rulesOf 22 = .ok (.getfield 9, 3) := by decide +kernel
theorem dX7_rulesOf_25 : decode cX7_rulesOf 25 = .ok (.iload_n 3, 1) := by decide +kernel
theorem dX7_rulesOf_26 : decode cX7_rulesOf 26 = .ok (.aload_n 0, 1) := by decide +kernel
theorem dX7_rulesOf_27 : decode cX7_rulesOf 27 = .ok (.getfield 21, 3) := by decide +kernel
theorem dX7_rulesOf_30 : decode cX7_rulesOf 30 = .ok (.getfield 59, 3) := by decide +kernel
theorem dX7_rulesOf_33 : decode cX7_rulesOf 33 = .ok (.iconst 2, 1) := by decide +kernel
theorem dX7_rulesOf_34 : decode cX7_rulesOf 34 = .ok (.iaload, 1) := by decide +kernel
theorem dX7_rulesOf_35 : decode cX7_rulesOf 35 = .ok (.iconst (-1), 1) := by decide +kernel
theorem dX7_rulesOf_36 : decode cX7_rulesOf 36 = .ok (.invokevirtual 62, 3) := by decide +kernel
theorem dX7_rulesOf_39 : decode cX7_rulesOf 39 = .ok (.iload_n 2, 1) := by decide +kernel
theorem dX7_rulesOf_40 : decode cX7_rulesOf 40 = .ok (.aload_n 0, 1) := by decide +kernel
theorem dX7_rulesOf_41 : decode cX7_rulesOf 41 = .ok (.aload_n 1, 1) := by decide +kernel
theorem dX7_rulesOf_42 : decode cX7_rulesOf 42 = .ok (.invokevirtual 92, 3) := by decide +kernel
theorem dX7_rulesOf_45 : decode cX7_rulesOf 45 = .ok (.ifCond .eq 9, 3) := by decide +kernel
theorem dX7_rulesOf_48 : decode cX7_rulesOf 48 = .ok (.iconst 1, 1) := by decide +kernel
theorem dX7_rulesOf_49 : decode cX7_rulesOf 49 = .ok (.iload_n 3, 1) := by decide +kernel
theorem dX7_rulesOf_50 : decode cX7_rulesOf 50 = .ok (.ishl, 1) := by decide +kernel
theorem dX7_rulesOf_51 : decode cX7_rulesOf 51 = .ok (.goto 4, 3) := by decide +kernel
theorem dX7_rulesOf_54 : decode cX7_rulesOf 54 = .ok (.iconst 0, 1) := by decide +kernel
theorem dX7_rulesOf_55 : decode cX7_rulesOf 55 = .ok (.ior, 1) := by decide +kernel
theorem dX7_rulesOf_56 : decode cX7_rulesOf 56 = .ok (.istore_n 2, 1) := by decide +kernel
theorem dX7_rulesOf_57 : decode cX7_rulesOf 57 = .ok (.iinc 3 1, 3) := by decide +kernel
theorem dX7_rulesOf_60 : decode cX7_rulesOf 60 = .ok (.goto (-49), 3) := by decide +kernel
theorem dX7_rulesOf_63 : decode cX7_rulesOf 63 = .ok (.iload_n 2, 1) := by decide +kernel
theorem dX7_rulesOf_64 : decode cX7_rulesOf 64 = .ok (.ireturn, 1) := by decide +kernel
theorem dX7_isShown_0 : decode cX7_isShown 0 = .ok (.aload_n 0, 1) := by decide +kernel
theorem dX7_isShown_1 : decode cX7_isShown 1 = .ok (.getfield 30, 3) := by decide +kernel
theorem dX7_isShown_4 : decode cX7_isShown 4 = .ok (.getfield 96, 3) := by decide +kernel
theorem dX7_isShown_7 : decode cX7_isShown 7 = .ok (.aload_n 1, 1) := by decide +kernel
theorem dX7_isShown_8 : decode cX7_isShown 8 = .ok (.getfield 99, 3) := by decide +kernel
theorem dX7_isShown_11 : decode cX7_isShown 11 = .ok (.if_icmp .ge 5, 3) := by decide +kernel
theorem dX7_isShown_14 : decode cX7_isShown 14 = .ok (.iconst 0, 1) := by decide +kernel
theorem dX7_isShown_15 : decode cX7_isShown 15 = .ok (.ireturn, 1) := by decide +kernel
theorem dX7_isShown_16 : decode cX7_isShown 16 = .ok (.iconst 0, 1) := by decide +kernel
theorem dX7_isShown_17 : decode cX7_isShown 17 = .ok (.istore_n 2, 1) := by decide +kernel
theorem dX7_isShown_18 : decode cX7_isShown 18 = .ok (.iload_n 2, 1) := by decide +kernel
theorem dX7_isShown_19 : decode cX7_isShown 19 = .ok (.aload_n 1, 1) := by decide +kernel
theorem dX7_isShown_20 : decode cX7_isShown 20 = .ok (.getfield 99, 3) := by decide +kernel
theorem dX7_isShown_23 : decode cX7_isShown 23 = .ok (.if_icmp .ge 36, 3) := by decide +kernel
theorem dX7_isShown_26 : decode cX7_isShown 26 = .ok (.aload_n 1, 1) := by decide +kernel
theorem dX7_isShown_27 : decode cX7_isShown 27 = .ok (.getfield 104, 3) := by decide +kernel
theorem dX7_isShown_30 : decode cX7_isShown 30 = .ok (.iload_n 2, 1) := by decide +kernel
theorem dX7_isShown_31 : decode cX7_isShown 31 = .ok (.laload, 1) := by decide +kernel
theorem dX7_isShown_32 : decode cX7_isShown 32 = .ok (.aload_n 0, 1) := by decide +kernel
theorem dX7_isShown_33 : decode cX7_isShown 33 = .ok (.getfield 30, 3) := by decide +kernel
theorem dX7_isShown_36 : decode cX7_isShown 36 = .ok (.getfield 108, 3) := by decide +kernel
theorem dX7_isShown_39 : decode cX7_isShown 39 = .ok (.iload_n 2, 1) := by decide +kernel
theorem dX7_isShown_40 : decode cX7_isShown 40 = .ok (.bipush 7, 2) := by decide +kernel
theorem dX7_isShown_42 : decode cX7_isShown 42 = .ok (.imul, 1) := by decide +kernel
theorem dX7_isShown_43 : decode cX7_isShown 43 = .ok (.iconst 0, 1) := by decide +kernel
theorem dX7_isShown_44 : decode cX7_isShown 44 = .ok (.iadd, 1) := by decide +kernel
theorem dX7_isShown_45 : decode cX7_isShown 45 = .ok (.iaload, 1) := by decide +kernel
theorem dX7_isShown_46 : decode cX7_isShown 46 = .ok (.i2l, 1) := by decide +kernel
theorem dX7_isShown_47 : decode cX7_isShown 47 = .ok (.lcmp, 1) := by decide +kernel
theorem dX7_isShown_48 : decode cX7_isShown 48 = .ok (.ifCond .eq 5, 3) := by decide +kernel
theorem dX7_isShown_51 : decode cX7_isShown 51 = .ok (.iconst 0, 1) := by decide +kernel
theorem dX7_isShown_52 : decode cX7_isShown 52 = .ok (.ireturn, 1) := by decide +kernel
theorem dX7_isShown_53 : decode cX7_isShown 53 = .ok (.iinc 2 1, 3) := by decide +kernel
theorem dX7_isShown_56 : decode cX7_isShown 56 = .ok (.goto (-38), 3) := by decide +kernel
theorem dX7_isShown_59 : decode cX7_isShown 59 = .ok (.iconst 1, 1) := by decide +kernel
theorem dX7_isShown_60 : decode cX7_isShown 60 = .ok (.ireturn, 1) := by decide +kernel
theorem dX7_wishNow_0 : decode cX7_wishNow 0 = .ok (.aload_n 0, 1) := by decide +kernel
theorem dX7_wishNow_1 : decode cX7_wishNow 1 = .ok (.getfield 30, 3) := by decide +kernel
theorem dX7_wishNow_4 : decode cX7_wishNow 4 = .ok (.invokevirtual 111, 3) := by decide +kernel
theorem dX7_wishNow_7 : decode cX7_wishNow 7 = .ok (.aload_n 0, 1) := by decide +kernel
theorem dX7_wishNow_8 : decode cX7_wishNow 8 = .ok (.getfield 21, 3) := by decide +kernel
theorem dX7_wishNow_11 : decode cX7_wishNow 11 = .ok (.getfield 114, 3) := by decide +kernel
theorem dX7_wishNow_14 : decode cX7_wishNow 14 = .ok (.aload_n 0, 1) := by decide +kernel
theorem dX7_wishNow_15 : decode cX7_wishNow 15 = .ok (.getfield 30, 3) := by decide +kernel
theorem dX7_wishNow_18 : decode cX7_wishNow 18 = .ok (.iload_n 1, 1) := by decide +kernel
theorem dX7_wishNow_19 : decode cX7_wishNow 19 = .ok (.iload_n 2, 1) := by decide +kernel
theorem dX7_wishNow_20 : decode cX7_wishNow 20 = .ok (.invokevirtual 118, 3) := by decide +kernel
theorem dX7_wishNow_23 : decode cX7_wishNow 23 = .ok (.invokevirtual 122, 3) := by decide +kernel
theorem dX7_wishNow_26 : decode cX7_wishNow 26 = .ok (.ireturn, 1) := by decide +kernel
theorem dX8_init_0 : decode cX8_init 0 = .ok (.aload_n 0, 1) := by decide +kernel
theorem dX8_init_1 : decode cX8_init 1 = .ok (.invokespecial 1, 3) := by decide +kernel
theorem dX8_init_4 : decode cX8_init 4 = .ok (.aload_n 0, 1) := by decide +kernel
theorem dX8_init_5 : decode cX8_init 5 = .ok (.new 7, 3) := by decide +kernel
theorem dX8_init_8 : decode cX8_init 8 = .ok (.dup, 1) := by decide +kernel
theorem dX8_init_9 : decode cX8_init 9 = .ok (.invokespecial 9, 3) := by decide +kernel
theorem dX8_init_12 : decode cX8_init 12 = .ok (.putfield 10, 3) := by decide +kernel
theorem dX8_init_15 : decode cX8_init 15 = .ok (.aload_n 0, 1) := by decide +kernel
theorem dX8_init_16 : decode cX8_init 16 = .ok (.new 16, 3) := by decide +kernel
theorem dX8_init_19 : decode cX8_init 19 = .ok (.dup, 1) := by decide +kernel
theorem dX8_init_20 : decode cX8_init 20 = .ok (.invokespecial 18, 3) := by decide +kernel
theorem dX8_init_23 : decode cX8_init 23 = .ok (.putfield 19, 3) := by decide +kernel
theorem dX8_init_26 : decode cX8_init 26 = .ok (.aload_n 0, 1) := by decide +kernel
theorem dX8_init_27 : decode cX8_init 27 = .ok (.new 23, 3) := by decide +kernel
theorem dX8_init_30 : decode cX8_init 30 = .ok (.dup, 1) := by decide +kernel
theorem dX8_init_31 : decode cX8_init 31 = .ok (.aload_n 0, 1) := by decide +kernel
theorem dX8_init_32 : decode cX8_init 32 = .ok (.getfield 10, 3) := by decide +kernel
theorem dX8_init_35 : decode cX8_init 35 = .ok (.invokespecial 25, 3) := by decide +kernel
theorem dX8_init_38 : decode cX8_init 38 = .ok (.putfield 28, 3) := by decide +kernel
theorem dX8_init_41 : decode cX8_init 41 = .ok (.aload_n 0, 1) := by decide +kernel
theorem dX8_init_42 : decode cX8_init 42 = .ok (.new 32, 3) := by decide +kernel
theorem dX8_init_45 : decode cX8_init 45 = .ok (.dup, 1) := by decide +kernel
theorem dX8_init_46 : decode cX8_init 46 = .ok (.aload_n 0, 1) := by decide +kernel
theorem dX8_init_47 : decode cX8_init 47 = .ok (.getfield 10, 3) := by decide +kernel
theorem dX8_init_50 : decode cX8_init 50 = .ok (.invokespecial 34, 3) := by decide +kernel
theorem dX8_init_53 : decode cX8_init 53 = .ok (.putfield 35, 3) := by decide +kernel
theorem dX8_init_56 : decode cX8_init 56 = .ok (.aload_n 0, 1) := by decide +kernel
theorem dX8_init_57 : decode cX8_init 57 = .ok (.new 39, 3) := by decide +kernel
theorem dX8_init_60 : decode cX8_init 60 = .ok (.dup, 1) := by decide +kernel
theorem dX8_init_61 : decode cX8_init 61 = .ok (.invokespecial 41, 3) := by decide +kernel
theorem dX8_init_64 : decode cX8_init 64 = .ok (.putfield 42, 3) := by decide +kernel
theorem dX8_init_67 : decode cX8_init 67 = .ok (.aload_n 0, 1) := by decide +kernel
theorem dX8_init_68 : decode cX8_init 68 = .ok (.bipush 6, 2) := by decide +kernel
theorem dX8_init_70 : decode cX8_init 70 = .ok (.anewarray 46, 3) := by decide +kernel
theorem dX8_init_73 : decode cX8_init 73 = .ok (.putfield 48, 3) := by decide +kernel
theorem dX8_init_76 : decode cX8_init 76 = .ok (.iconst 0, 1) := by decide +kernel
theorem dX8_init_77 : decode cX8_init 77 = .ok (.istore_n 1, 1) := by decide +kernel
theorem dX8_init_78 : decode cX8_init 78 = .ok (.iload_n 1, 1) := by decide +kernel
theorem dX8_init_79 : decode cX8_init 79 = .ok (.bipush 6, 2) := by decide +kernel
theorem dX8_init_81 : decode cX8_init 81 = .ok (.if_icmp .ge 22, 3) := by decide +kernel
theorem dX8_init_84 : decode cX8_init 84 = .ok (.aload_n 0, 1) := by decide +kernel
theorem dX8_init_85 : decode cX8_init 85 = .ok (.getfield 48, 3) := by decide +kernel
theorem dX8_init_88 : decode cX8_init 88 = .ok (.iload_n 1, 1) := by decide +kernel
theorem dX8_init_89 : decode cX8_init 89 = .ok (.new 46, 3) := by decide +kernel
theorem dX8_init_92 : decode cX8_init 92 = .ok (.dup, 1) := by decide +kernel
theorem dX8_init_93 : decode cX8_init 93 = .ok (.invokespecial 52, 3) := by decide +kernel
theorem dX8_init_96 : decode cX8_init 96 = .ok (.aastore, 1) := by decide +kernel
theorem dX8_init_97 : decode cX8_init 97 = .ok (.iinc 1 1, 3) := by decide +kernel
theorem dX8_init_100 : decode cX8_init 100 = .ok (.goto (-22), 3) := by decide +kernel
theorem dX8_init_103 : decode cX8_init 103 = .ok (.return_, 1) := by decide +kernel
theorem dX8_person_0 : decode cX8_person 0 = .ok (.iload_n 1, 1) := by decide +kernel
theorem dX8_person_1 : decode cX8_person 1 = .ok (.ifCond .lt 20, 3) := by decide +kernel
theorem dX8_person_4 : decode cX8_person 4 = .ok (.iload_n 1, 1) := by decide +kernel
theorem dX8_person_5 : decode cX8_person 5 = .ok (.bipush 99, 2) := by decide +kernel
theorem dX8_person_7 : decode cX8_person 7 = .ok (.if_icmp .gt 14, 3) := by decide +kernel
theorem dX8_person_10 : decode cX8_person 10 = .ok (.iload_n 2, 1) := by decide +kernel
theorem dX8_person_11 : decode cX8_person 11 = .ok (.ifCond .lt 10, 3) := by decide +kernel
theorem dX8_person_14 : decode cX8_person 14 = .ok (.iload_n 2, 1) := by decide +kernel
theorem dX8_person_15 : decode cX8_person 15 = .ok (.sipush 9999, 3) := by decide +kernel
theorem dX8_person_18 : decode cX8_person 18 = .ok (.if_icmp .le 5, 3) := by decide +kernel
theorem dX8_person_21 : decode cX8_person 21 = .ok (.iconst (-1), 1) := by decide +kernel
theorem dX8_person_22 : decode cX8_person 22 = .ok (.ireturn, 1) := by decide +kernel
theorem dX8_person_23 : decode cX8_person 23 = .ok (.aload_n 0, 1) := by decide +kernel
theorem dX8_person_24 : decode cX8_person 24 = .ok (.getfield 10, 3) := by decide +kernel
theorem dX8_person_27 : decode cX8_person 27 = .ok (.getfield 53, 3) := by decide +kernel
theorem dX8_person_30 : decode cX8_person 30 = .ok (.bipush 10, 2) := by decide +kernel
theorem dX8_person_32 : decode cX8_person 32 = .ok (.if_icmp .lt 8, 3) := by decide +kernel
theorem dX8_person_35 : decode cX8_person 35 = .ok (.bipush (-3), 2) := by decide +kernel
theorem dX8_person_37 : decode cX8_person 37 = .ok (.goto 12, 3) := by decide +kernel
theorem dX8_person_40 : decode cX8_person 40 = .ok (.aload_n 0, 1) := by decide +kernel
theorem dX8_person_41 : decode cX8_person 41 = .ok (.getfield 10, 3) := by decide +kernel
theorem dX8_person_44 : decode cX8_person 44 = .ok (.iload_n 1, 1) := by decide +kernel
theorem dX8_person_45 : decode cX8_person 45 = .ok (.iload_n 2, 1) := by decide +kernel
theorem dX8_person_46 : decode cX8_person 46 = .ok (.invokevirtual 57, 3) := by decide +kernel
theorem dX8_person_49 : decode cX8_person 49 = .ok (.ireturn, 1) := by decide +kernel
theorem dX8_thing_0 : decode cX8_thing 0 = .ok (.iload_n 1, 1) := by decide +kernel
theorem dX8_thing_1 : decode cX8_thing 1 = .ok (.bipush (-99), 2) := by decide +kernel
theorem dX8_thing_3 : decode cX8_thing 3 = .ok (.if_icmp .lt 19, 3) := by decide +kernel
theorem dX8_thing_6 : decode cX8_thing 6 = .ok (.iload_n 1, 1) := by decide +kernel
theorem dX8_thing_7 : decode cX8_thing 7 = .ok (.bipush 99, 2) := by decide +kernel
theorem dX8_thing_9 : decode cX8_thing 9 = .ok (.if_icmp .gt 13, 3) := by decide +kernel
theorem dX8_thing_12 : decode cX8_thing 12 = .ok (.iload_n 2, 1) := by decide +kernel
theorem dX8_thing_13 : decode cX8_thing 13 = .ok (.ifCond .lt 9, 3) := by decide +kernel
theorem dX8_thing_16 : decode cX8_thing 16 = .ok (.iload_n 2, 1) := by decide +kernel
theorem dX8_thing_17 : decode cX8_thing 17 = .ok (.bipush 9, 2) := by decide +kernel
theorem dX8_thing_19 : decode cX8_thing 19 = .ok (.if_icmp .le 5, 3) := by decide +kernel
theorem dX8_thing_22 : decode cX8_thing 22 = .ok (.iconst (-1), 1) := by decide +kernel
theorem dX8_thing_23 : decode cX8_thing 23 = .ok (.ireturn, 1) := by decide +kernel
theorem dX8_thing_24 : decode cX8_thing 24 = .ok (.aload_n 0, 1) := by decide +kernel
theorem dX8_thing_25 : decode cX8_thing 25 = .ok (.getfield 10, 3) := by decide +kernel
theorem dX8_thing_28 : decode cX8_thing 28 = .ok (.getfield 61, 3) := by decide +kernel
theorem dX8_thing_31 : decode cX8_thing 31 = .ok (.bipush 6, 2) := by decide +kernel
theorem dX8_thing_33 : decode cX8_thing 33 = .ok (.if_icmp .lt 8, 3) := by decide +kernel
theorem dX8_thing_36 : decode cX8_thing 36 = .ok (.bipush (-3), 2) := by decide +kernel
theorem dX8_thing_38 : decode cX8_thing 38 = .ok (.goto 12, 3) := by decide +kernel
theorem dX8_thing_41 : decode cX8_thing 41 = .ok (.aload_n 0, 1) := by decide +kernel
theorem dX8_thing_42 : decode cX8_thing 42 = .ok (.getfield 10, 3) := by decide +kernel
theorem dX8_thing_45 : decode cX8_thing 45 = .ok (.iload_n 1, 1) := by decide +kernel
theorem dX8_thing_46 : decode cX8_thing 46 = .ok (.iload_n 2, 1) := by decide +kernel
theorem dX8_thing_47 : decode cX8_thing 47 = .ok (.invokevirtual 64, 3) := by decide +kernel
theorem dX8_thing_50 : decode cX8_thing 50 = .ok (.ireturn, 1) := by decide +kernel
theorem dX8_card_0 : decode cX8_card 0 = .ok (.aload_n 0, 1) := by decide +kernel
theorem dX8_card_1 : decode cX8_card 1 = .ok (.getfield 10, 3) := by decide +kernel
theorem dX8_card_4 : decode cX8_card 4 = .ok (.iload_n 1, 1) := by decide +kernel
theorem dX8_card_5 : decode cX8_card 5 = .ok (.iload_n 2, 1) := by decide +kernel
theorem dX8_card_6 : decode cX8_card 6 = .ok (.iload_n 3, 1) := by decide +kernel
theorem dX8_card_7 : decode cX8_card 7 = .ok (.invokevirtual 67, 3) := by decide +kernel
theorem dX8_card_10 : decode cX8_card 10 = .ok (.ifCond .ne 5, 3) := by decide +kernel
theorem dX8_card_13 : decode cX8_card 13 = .ok (.iconst (-1), 1) := by decide +kernel
theorem dX8_card_14 : decode cX8_card 14 = .ok (.ireturn, 1) := by decide +kernel
theorem dX8_card_15 : decode cX8_card 15 = .ok (.aload_n 0, 1) := by decide +kernel
theorem dX8_card_16 : decode cX8_card 16 = .ok (.getfield 10, 3) := by decide +kernel
theorem dX8_card_19 : decode cX8_card 19 = .ok (.getfield 71, 3) := by decide +kernel
theorem dX8_card_22 : decode cX8_card 22 = .ok (.bipush 20, 2) := by decide +kernel
theorem dX8_card_24 : decode cX8_card 24 = .ok (.if_icmp .lt 8, 3) := by decide +kernel
theorem dX8_card_27 : decode cX8_card 27 = .ok (.bipush (-3), 2) := by decide +kernel
theorem dX8_card_29 : decode cX8_card 29 = .ok (.goto 13, 3) := by decide +kernel
theorem dX8_card_32 : decode cX8_card 32 = .ok (.aload_n 0, 1) := by decide +kernel
theorem dX8_card_33 : decode cX8_card 33 = .ok (.getfield 10, 3) := by decide +kernel
theorem dX8_card_36 : decode cX8_card 36 = .ok (.iload_n 1, 1) := by decide +kernel
theorem dX8_card_37 : decode cX8_card 37 = .ok (.iload_n 2, 1) := by decide +kernel
theorem dX8_card_38 : decode cX8_card 38 = .ok (.iload_n 3, 1) := by decide +kernel
theorem dX8_card_39 : decode cX8_card 39 = .ok (.invokevirtual 74, 3) := by decide +kernel
theorem dX8_card_42 : decode cX8_card 42 = .ok (.ireturn, 1) := by decide +kernel
theorem dX8_cards_0 : decode cX8_cards 0 = .ok (.iload_n 1, 1) := by decide +kernel
theorem dX8_cards_1 : decode cX8_cards 1 = .ok (.invokestatic 78, 3) := by decide +kernel
theorem dX8_cards_4 : decode cX8_cards 4 = .ok (.ifCond .ne 14, 3) := by decide +kernel
theorem dX8_cards_7 : decode cX8_cards 7 = .ok (.iload_n 3, 1) := by decide +kernel
theorem dX8_cards_8 : decode cX8_cards 8 = .ok (.iconst 1, 1) := by decide +kernel
theorem dX8_cards_9 : decode cX8_cards 9 = .ok (.if_icmp .lt 9, 3) := by decide +kernel
theorem dX8_cards_12 : decode cX8_cards 12 = .ok (.iload_n 3, 1) := by decide +kernel
theorem dX8_cards_13 : decode cX8_cards 13 = .ok (.bipush 20, 2) := by decide +kernel
theorem dX8_cards_15 : decode cX8_cards 15 = .ok (.if_icmp .le 5, 3) := by decide +kernel
theorem dX8_cards_18 : decode cX8_cards 18 = .ok (.iconst (-1), 1) := by decide +kernel
theorem dX8_cards_19 : decode cX8_cards 19 = .ok (.ireturn, 1) := by decide +kernel
theorem dX8_cards_20 : decode cX8_cards 20 = .ok (.aload_n 0, 1) := by decide +kernel
theorem dX8_cards_21 : decode cX8_cards 21 = .ok (.getfield 48, 3) := by decide +kernel
theorem dX8_cards_24 : decode cX8_cards 24 = .ok (.iload_n 1, 1) := by decide +kernel
theorem dX8_cards_25 : decode cX8_cards 25 = .ok (.aaload, 1) := by decide +kernel
theorem dX8_cards_26 : decode cX8_cards 26 = .ok (.astore 4, 2) := by decide +kernel
theorem dX8_cards_28 : decode cX8_cards 28 = .ok (.aload 4, 2) := by decide +kernel
theorem dX8_cards_30 : decode cX8_cards 30 = .ok (.getfield 82, 3) := by decide +kernel
theorem dX8_cards_33 : decode cX8_cards 33 = .ok (.bipush (-2), 2) := by decide +kernel
theorem dX8_cards_35 : decode cX8_cards 35 = .ok (.if_icmp .ne 5, 3) := by decide +kernel
theorem dX8_cards_38 : decode cX8_cards 38 = .ok (.iconst 0, 1) := by decide +kernel
theorem dX8_cards_39 : decode cX8_cards 39 = .ok (.ireturn, 1) := by decide +kernel
theorem dX8_cards_40 : decode cX8_cards 40 = .ok (.aload 4, 2) := by decide +kernel
theorem dX8_cards_42 : decode cX8_cards 42 = .ok (.getfield 82, 3) := by decide +kernel
theorem dX8_cards_45 : decode cX8_cards 45 = .ok (.iconst 1, 1) := by decide +kernel
theorem dX8_cards_46 : decode cX8_cards 46 = .ok (.if_icmp .ne 17, 3) := by decide +kernel
theorem dX8_cards_49 : decode cX8_cards 49 = .ok (.aload_n 0, 1) := by decide +kernel
theorem dX8_cards_50 : decode cX8_cards 50 = .ok (.getfield 10, 3) := by decide +kernel
theorem dX8_cards_53 : decode cX8_cards 53 = .ok (.aload 4, 2) := by decide +kernel
theorem dX8_cards_55 : decode cX8_cards 55 = .ok (.iload_n 2, 1) := by decide +kernel
theorem dX8_cards_56 : decode cX8_cards 56 = .ok (.iload_n 3, 1) := by decide +kernel
theorem dX8_cards_57 : decode cX8_cards 57 = .ok (.invokevirtual 85, 3) := by decide +kernel
theorem dX8_cards_60 : decode cX8_cards 60 = .ok (.goto 5, 3) := by decide +kernel
theorem dX8_cards_63 : decode cX8_cards 63 = .ok (.bipush (-12), 2) := by decide +kernel
theorem dX8_cards_65 : decode cX8_cards 65 = .ok (.ireturn, 1) := by decide +kernel
theorem dX8_feed_0 : decode cX8_feed 0 = .ok (.iload_n 1, 1) := by decide +kernel
theorem dX8_feed_1 : decode cX8_feed 1 = .ok (.ifCond .lt 10, 3) := by decide +kernel
theorem dX8_feed_4 : decode cX8_feed 4 = .ok (.iload_n 1, 1) := by decide +kernel
theorem dX8_feed_5 : decode cX8_feed 5 = .ok (.sipush 255, 3) := by decide +kernel
theorem dX8_feed_8 : decode cX8_feed 8 = .ok (.if_icmp .le 5, 3) := by decide +kernel
theorem dX8_feed_11 : decode cX8_feed 11 = .ok (.iconst (-1), 1) := by decide +kernel
theorem dX8_feed_12 : decode cX8_feed 12 = .ok (.ireturn, 1) := by decide +kernel
theorem dX8_feed_13 : decode cX8_feed 13 = .ok (.aload_n 0, 1) := by decide +kernel
theorem dX8_feed_14 : decode cX8_feed 14 = .ok (.getfield 10, 3) := by decide +kernel
theorem dX8_feed_17 : decode cX8_feed 17 = .ok (.getfield 89, 3) := by decide +kernel
theorem dX8_feed_20 : decode cX8_feed 20 = .ok (.invokevirtual 93, 3) := by decide +kernel
theorem dX8_feed_23 : decode cX8_feed 23 = .ok (.ifCond .eq 8, 3) := by decide +kernel
theorem dX8_feed_26 : decode cX8_feed 26 = .ok (.bipush (-3), 2) := by decide +kernel
theorem dX8_feed_28 : decode cX8_feed 28 = .ok (.goto 14, 3) := by decide +kernel
theorem dX8_feed_31 : decode cX8_feed 31 = .ok (.aload_n 0, 1) := by decide +kernel
theorem dX8_feed_32 : decode cX8_feed 32 = .ok (.getfield 10, 3) := by decide +kernel
theorem dX8_feed_35 : decode cX8_feed 35 = .ok (.getfield 89, 3) := by decide +kernel
theorem dX8_feed_38 : decode cX8_feed 38 = .ok (.iload_n 1, 1) := by decide +kernel
theorem dX8_feed_39 : decode cX8_feed 39 = .ok (.invokevirtual 99, 3) := by decide +kernel
theorem dX8_feed_42 : decode cX8_feed 42 = .ok (.ireturn, 1) := by decide +kernel
theorem dX8_law_0 : decode cX8_law 0 = .ok (.aload_n 0, 1) := by decide +kernel
theorem dX8_law_1 : decode cX8_law 1 = .ok (.getfield 10, 3) := by decide +kernel
theorem dX8_law_4 : decode cX8_law 4 = .ok (.getfield 89, 3) := by decide +kernel
theorem dX8_law_7 : decode cX8_law 7 = .ok (.invokevirtual 103, 3) := by decide +kernel
theorem dX8_law_10 : decode cX8_law 10 = .ok (.istore_n 1, 1) := by decide +kernel
theorem dX8_law_11 : decode cX8_law 11 = .ok (.iload_n 1, 1) := by decide +kernel
theorem dX8_law_12 : decode cX8_law 12 = .ok (.ifCond .lt 8, 3) := by decide +kernel
theorem dX8_law_15 : decode cX8_law 15 = .ok (.bipush (-100), 2) := by decide +kernel
theorem dX8_law_17 : decode cX8_law 17 = .ok (.iload_n 1, 1) := by decide +kernel
theorem dX8_law_18 : decode cX8_law 18 = .ok (.isub, 1) := by decide +kernel
theorem dX8_law_19 : decode cX8_law 19 = .ok (.ireturn, 1) := by decide +kernel
theorem dX8_law_20 : decode cX8_law 20 = .ok (.aload_n 0, 1) := by decide +kernel
theorem dX8_law_21 : decode cX8_law 21 = .ok (.getfield 10, 3) := by decide +kernel
theorem dX8_law_24 : decode cX8_law 24 = .ok (.dup, 1) := by decide +kernel
theorem dX8_law_25 : decode cX8_law 25 = .ok (.getfield 107, 3) := by decide +kernel
theorem dX8_law_28 : decode cX8_law 28 = .ok (.iconst 1, 1) := by decide +kernel
theorem dX8_law_29 : decode cX8_law 29 = .ok (.iadd, 1) := by decide +kernel
theorem dX8_law_30 : decode cX8_law 30 = .ok (.putfield 107, 3) := by decide +kernel
theorem dX8_law_33 : decode cX8_law 33 = .ok (.iconst 1, 1) := by decide +kernel
theorem dX8_law_34 : decode cX8_law 34 = .ok (.ireturn, 1) := by decide +kernel
theorem dX8_set_0 : decode cX8_set 0 = .ok (.iload_n 1, 1) := by decide +kernel
theorem dX8_set_1 : decode cX8_set 1 = .ok (.ifCond .lt 26, 3) := by decide +kernel
theorem dX8_set_4 : decode cX8_set 4 = .ok (.iload_n 1, 1) := by decide +kernel
theorem dX8_set_5 : decode cX8_set 5 = .ok (.iconst 2, 1) := by decide +kernel
theorem dX8_set_6 : decode cX8_set 6 = .ok (.if_icmp .gt 21, 3) := by decide +kernel
theorem dX8_set_9 : decode cX8_set 9 = .ok (.iload_n 2, 1) := by decide +kernel
theorem dX8_set_10 : decode cX8_set 10 = .ok (.getstatic 110, 3) := by decide +kernel
theorem dX8_set_13 : decode cX8_set 13 = .ok (.iload_n 1, 1) := by decide +kernel
theorem dX8_set_14 : decode cX8_set 14 = .ok (.iaload, 1) := by decide +kernel
theorem dX8_set_15 : decode cX8_set 15 = .ok (.if_icmp .lt 12, 3) := by decide +kernel
theorem dX8_set_18 : decode cX8_set 18 = .ok (.iload_n 2, 1) := by decide +kernel
theorem dX8_set_19 : decode cX8_set 19 = .ok (.getstatic 114, 3) := by decide +kernel
theorem dX8_set_22 : decode cX8_set 22 = .ok (.iload_n 1, 1) := by decide +kernel
theorem dX8_set_23 : decode cX8_set 23 = .ok (.iaload, 1) := by decide +kernel
theorem dX8_set_24 : decode cX8_set 24 = .ok (.if_icmp .le 5, 3) := by decide +kernel
theorem dX8_set_27 : decode cX8_set 27 = .ok (.iconst (-1), 1) := by decide +kernel
theorem dX8_set_28 : decode cX8_set 28 = .ok (.ireturn, 1) := by decide +kernel
theorem dX8_set_29 : decode cX8_set 29 = .ok (.aload_n 0, 1) := by decide +kernel
theorem dX8_set_30 : decode cX8_set 30 = .ok (.getfield 10, 3) := by decide +kernel
theorem dX8_set_33 : decode cX8_set 33 = .ok (.getfield 117, 3) := by decide +kernel
theorem dX8_set_36 : decode cX8_set 36 = .ok (.iload_n 1, 1) := by decide +kernel
theorem dX8_set_37 : decode cX8_set 37 = .ok (.iaload, 1) := by decide +kernel
theorem dX8_set_38 : decode cX8_set 38 = .ok (.istore_n 3, 1) := by decide +kernel
theorem dX8_set_39 : decode cX8_set 39 = .ok (.aload_n 0, 1) := by decide +kernel
theorem dX8_set_40 : decode cX8_set 40 = .ok (.getfield 10, 3) := by decide +kernel
theorem dX8_set_43 : decode cX8_set 43 = .ok (.getfield 117, 3) := by decide +kernel
theorem dX8_set_46 : decode cX8_set 46 = .ok (.iload_n 1, 1) := by decide +kernel
theorem dX8_set_47 : decode cX8_set 47 = .ok (.iload_n 2, 1) := by decide +kernel
theorem dX8_set_48 : decode cX8_set 48 = .ok (.iastore, 1) := by decide +kernel
theorem dX8_set_49 : decode cX8_set 49 = .ok (.aload_n 0, 1) := by decide +kernel
theorem dX8_set_50 : decode cX8_set 50 = .ok (.getfield 10, 3) := by decide +kernel
theorem dX8_set_53 : decode cX8_set 53 = .ok (.dup, 1) := by decide +kernel
theorem dX8_set_54 : decode cX8_set 54 = .ok (.getfield 107, 3) := by decide +kernel
theorem dX8_set_57 : decode cX8_set 57 = .ok (.iconst 1, 1) := by decide +kernel
theorem dX8_set_58 : decode cX8_set 58 = .ok (.iadd, 1) := by decide +kernel
theorem dX8_set_59 : decode cX8_set 59 = .ok (.putfield 107, 3) := by decide +kernel
theorem dX8_set_62 : decode cX8_set 62 = .ok (.iload_n 3, 1) := by decide +kernel
theorem dX8_set_63 : decode cX8_set 63 = .ok (.ireturn, 1) := by decide +kernel
theorem dX8_mend_0 : decode cX8_mend 0 = .ok (.iload_n 2, 1) := by decide +kernel
theorem dX8_mend_1 : decode cX8_mend 1 = .ok (.ifCond .lt 26, 3) := by decide +kernel
theorem dX8_mend_4 : decode cX8_mend 4 = .ok (.iload_n 2, 1) := by decide +kernel
theorem dX8_mend_5 : decode cX8_mend 5 = .ok (.iconst 5, 1) := by decide +kernel
theorem dX8_mend_6 : decode cX8_mend 6 = .ok (.if_icmp .ge 21, 3) := by decide +kernel
theorem dX8_mend_9 : decode cX8_mend 9 = .ok (.iload_n 3, 1) := by decide +kernel
theorem dX8_mend_10 : decode cX8_mend 10 = .ok (.getstatic 120, 3) := by decide +kernel
theorem dX8_mend_13 : decode cX8_mend 13 = .ok (.iload_n 2, 1) := by decide +kernel
theorem dX8_mend_14 : decode cX8_mend 14 = .ok (.iaload, 1) := by decide +kernel
theorem dX8_mend_15 : decode cX8_mend 15 = .ok (.if_icmp .lt 12, 3) := by decide +kernel
theorem dX8_mend_18 : decode cX8_mend 18 = .ok (.iload_n 3, 1) := by decide +kernel
theorem dX8_mend_19 : decode cX8_mend 19 = .ok (.getstatic 123, 3) := by decide +kernel
theorem dX8_mend_22 : decode cX8_mend 22 = .ok (.iload_n 2, 1) := by decide +kernel
theorem dX8_mend_23 : decode cX8_mend 23 = .ok (.iaload, 1) := by decide +kernel
theorem dX8_mend_24 : decode cX8_mend 24 = .ok (.if_icmp .le 6, 3) := by decide +kernel
theorem dX8_mend_27 : decode cX8_mend 27 = .ok (.ldc 126, 2) := by decide +kernel
theorem dX8_mend_29 : decode cX8_mend 29 = .ok (.ireturn, 1) := by decide +kernel
theorem dX8_mend_30 : decode cX8_mend 30 = .ok (.iload_n 1, 1) := by decide +kernel
theorem dX8_mend_31 : decode cX8_mend 31 = .ok (.ifCond .lt 29, 3) := by decide +kernel
theorem dX8_mend_34 : decode cX8_mend 34 = .ok (.iload_n 1, 1) := by decide +kernel
theorem dX8_mend_35 : decode cX8_mend 35 = .ok (.iload_n 2, 1) := by decide +kernel
theorem dX8_mend_36 : decode cX8_mend 36 = .ok (.iconst 3, 1) := by decide +kernel
theorem dX8_mend_37 : decode cX8_mend 37 = .ok (.if_icmp .ge 13, 3) := by decide +kernel
theorem dX8_mend_40 : decode cX8_mend 40 = .ok (.aload_n 0, 1) := by decide +kernel
theorem dX8_mend_41 : decode cX8_mend 41 = .ok (.getfield 10, 3) := by decide +kernel
theorem dX8_mend_44 : decode cX8_mend 44 = .ok (.getfield 53, 3) := by decide +kernel
theorem dX8_mend_47 : decode cX8_mend 47 = .ok (.goto 10, 3) := by decide +kernel
theorem dX8_mend_50 : decode cX8_mend 50 = .ok (.aload_n 0, 1) := by decide +kernel
theorem dX8_mend_51 : decode cX8_mend 51 = .ok (.getfield 10, 3) := by decide +kernel
theorem dX8_mend_54 : decode cX8_mend 54 = .ok (.getfield 61, 3) := by decide +kernel
theorem dX8_mend_57 : decode cX8_mend 57 = .ok (.if_icmp .lt 6, 3) := by decide +kernel
theorem dX8_mend_60 : decode cX8_mend 60 = .ok (.ldc 126, 2) := by decide +kernel
theorem dX8_mend_62 : decode cX8_mend 62 = .ok (.ireturn, 1) := by decide +kernel
theorem dX8_mend_63 : decode cX8_mend 63 = .ok (.aload_n 0, 1) := by decide +kernel
theorem dX8_mend_64 : decode cX8_mend 64 = .ok (.getfield 10, 3) := by decide +kernel
theorem dX8_mend_67 : decode cX8_mend 67 = .ok (.iload_n 2, 1) := by decide +kernel
theorem dX8_mend_68 : decode cX8_mend 68 = .ok (.invokevirtual 127, 3) := by decide +kernel
theorem dX8_mend_71 : decode cX8_mend 71 = .ok (.iload_n 1, 1) := by decide +kernel
theorem dX8_mend_72 : decode cX8_mend 72 = .ok (.iaload, 1) := by decide +kernel
theorem dX8_mend_73 : decode cX8_mend 73 = .ok (.istore 4, 2) := by decide +kernel
theorem dX8_mend_75 : decode cX8_mend 75 = .ok (.iload 4, 2) := by decide +kernel
theorem dX8_mend_77 : decode cX8_mend 77 = .ok (.iload_n 3, 1) := by decide +kernel
theorem dX8_mend_78 : decode cX8_mend 78 = .ok (.if_icmp .eq 25, 3) := by decide +kernel
theorem dX8_mend_81 : decode cX8_mend 81 = .ok (.aload_n 0, 1) := by decide +kernel
theorem dX8_mend_82 : decode cX8_mend 82 = .ok (.getfield 19, 3) := by decide +kernel
theorem dX8_mend_85 : decode cX8_mend 85 = .ok (.iload_n 1, 1) := by decide +kernel
theorem dX8_mend_86 : decode cX8_mend 86 = .ok (.iload_n 2, 1) := by decide +kernel
theorem dX8_mend_87 : decode cX8_mend 87 = .ok (.iload 4, 2) := by decide +kernel
theorem dX8_mend_89 : decode cX8_mend 89 = .ok (.iload_n 3, 1) := by decide +kernel
theorem dX8_mend_90 : decode cX8_mend 90 = .ok (.invokevirtual 131, 3) := by decide +kernel
theorem dX8_mend_93 : decode cX8_mend 93 = .ok (.aload_n 0, 1) := by decide +kernel
theorem dX8_mend_94 : decode cX8_mend 94 = .ok (.getfield 10, 3) := by decide +kernel
theorem dX8_mend_97 : decode cX8_mend 97 = .ok (.iload_n 1, 1) := by decide +kernel
theorem dX8_mend_98 : decode cX8_mend 98 = .ok (.iload_n 2, 1) := by decide +kernel
theorem dX8_mend_99 : decode cX8_mend 99 = .ok (.iload_n 3, 1) := by decide +kernel
theorem dX8_mend_100 : decode cX8_mend 100 = .ok (.invokevirtual 135, 3) := by decide +kernel
theorem dX8_mend_103 : decode cX8_mend 103 = .ok (.iload 4, 2) := by decide +kernel
theorem dX8_mend_105 : decode cX8_mend 105 = .ok (.ireturn, 1) := by decide +kernel
theorem dX8_of_0 : decode cX8_of 0 = .ok (.iload_n 1, 1) := by decide +kernel
theorem dX8_of_1 : decode cX8_of 1 = .ok (.ifCond .ge 6, 3) := by decide +kernel
theorem dX8_of_4 : decode cX8_of 4 = .ok (.ldc 126, 2) := by decide +kernel
theorem dX8_of_6 : decode cX8_of 6 = .ok (.ireturn, 1) := by decide +kernel
theorem dX8_of_7 : decode cX8_of 7 = .ok (.iload_n 2, 1) := by decide +kernel
theorem dX8_of_8 : decode cX8_of 8 = .ok (.ifCond .lt 34, 3) := by decide +kernel
theorem dX8_of_11 : decode cX8_of 11 = .ok (.iload_n 2, 1) := by decide +kernel
theorem dX8_of_12 : decode cX8_of 12 = .ok (.iconst 3, 1) := by decide +kernel
theorem dX8_of_13 : decode cX8_of 13 = .ok (.if_icmp .gt 29, 3) := by decide +kernel
theorem dX8_of_16 : decode cX8_of 16 = .ok (.iload_n 1, 1) := by decide +kernel
theorem dX8_of_17 : decode cX8_of 17 = .ok (.aload_n 0, 1) := by decide +kernel
theorem dX8_of_18 : decode cX8_of 18 = .ok (.getfield 10, 3) := by decide +kernel
theorem dX8_of_21 : decode cX8_of 21 = .ok (.getfield 53, 3) := by decide +kernel
theorem dX8_of_24 : decode cX8_of 24 = .ok (.if_icmp .ge 15, 3) := by decide +kernel
theorem dX8_of_27 : decode cX8_of 27 = .ok (.aload_n 0, 1) := by decide +kernel
theorem dX8_of_28 : decode cX8_of 28 = .ok (.getfield 10, 3) := by decide +kernel
theorem dX8_of_31 : decode cX8_of 31 = .ok (.iload_n 1, 1) := by decide +kernel
theorem dX8_of_32 : decode cX8_of 32 = .ok (.iload_n 2, 1) := by decide +kernel
theorem dX8_of_33 : decode cX8_of 33 = .ok (.invokevirtual 139, 3) := by decide +kernel
theorem dX8_of_36 : decode cX8_of 36 = .ok (.goto 5, 3) := by decide +kernel
theorem dX8_of_39 : decode cX8_of 39 = .ok (.ldc 126, 2) := by decide +kernel
theorem dX8_of_41 : decode cX8_of 41 = .ok (.ireturn, 1) := by decide +kernel
theorem dX8_of_42 : decode cX8_of 42 = .ok (.iload_n 2, 1) := by decide +kernel
theorem dX8_of_43 : decode cX8_of 43 = .ok (.bipush 10, 2) := by decide +kernel
theorem dX8_of_45 : decode cX8_of 45 = .ok (.if_icmp .eq 9, 3) := by decide +kernel
theorem dX8_of_48 : decode cX8_of 48 = .ok (.iload_n 2, 1) := by decide +kernel
theorem dX8_of_49 : decode cX8_of 49 = .ok (.bipush 11, 2) := by decide +kernel
theorem dX8_of_51 : decode cX8_of 51 = .ok (.if_icmp .ne 45, 3) := by decide +kernel
theorem dX8_of_54 : decode cX8_of 54 = .ok (.iload_n 1, 1) := by decide +kernel
theorem dX8_of_55 : decode cX8_of 55 = .ok (.aload_n 0, 1) := by decide +kernel
theorem dX8_of_56 : decode cX8_of 56 = .ok (.getfield 10, 3) := by decide +kernel
theorem dX8_of_59 : decode cX8_of 59 = .ok (.getfield 61, 3) := by decide +kernel
theorem dX8_of_62 : decode cX8_of 62 = .ok (.if_icmp .ge 31, 3) := by decide +kernel
theorem dX8_of_65 : decode cX8_of 65 = .ok (.iload_n 2, 1) := by decide +kernel
theorem dX8_of_66 : decode cX8_of 66 = .ok (.bipush 10, 2) := by decide +kernel
theorem dX8_of_68 : decode cX8_of 68 = .ok (.if_icmp .ne 13, 3) := by decide +kernel
theorem dX8_of_71 : decode cX8_of 71 = .ok (.aload_n 0, 1) := by decide +kernel
theorem dX8_of_72 : decode cX8_of 72 = .ok (.getfield 10, 3) := by decide +kernel
theorem dX8_of_75 : decode cX8_of 75 = .ok (.getfield 142, 3) := by decide +kernel
theorem dX8_of_78 : decode cX8_of 78 = .ok (.goto 10, 3) := by decide +kernel
theorem dX8_of_81 : decode cX8_of 81 = .ok (.aload_n 0, 1) := by decide +kernel
theorem dX8_of_82 : decode cX8_of 82 = .ok (.getfield 10, 3) := by decide +kernel
theorem dX8_of_85 : decode cX8_of 85 = .ok (.getfield 145, 3) := by decide +kernel
theorem dX8_of_88 : decode cX8_of 88 = .ok (.iload_n 1, 1) := by decide +kernel
theorem dX8_of_89 : decode cX8_of 89 = .ok (.iaload, 1) := by decide +kernel
theorem dX8_of_90 : decode cX8_of 90 = .ok (.goto 5, 3) := by decide +kernel
theorem dX8_of_93 : decode cX8_of 93 = .ok (.ldc 126, 2) := by decide +kernel
theorem dX8_of_95 : decode cX8_of 95 = .ok (.ireturn, 1) := by decide +kernel
theorem dX8_of_96 : decode cX8_of 96 = .ok (.iload_n 2, 1) := by decide +kernel
theorem dX8_of_97 : decode cX8_of 97 = .ok (.bipush 20, 2) := by decide +kernel
theorem dX8_of_99 : decode cX8_of 99 = .ok (.if_icmp .lt 35, 3) := by decide +kernel
theorem dX8_of_102 : decode cX8_of 102 = .ok (.iload_n 2, 1) := by decide +kernel
theorem dX8_of_103 : decode cX8_of 103 = .ok (.bipush 22, 2) := by decide +kernel
theorem dX8_of_105 : decode cX8_of 105 = .ok (.if_icmp .gt 29, 3) := by decide +kernel
theorem dX8_of_108 : decode cX8_of 108 = .ok (.iload_n 1, 1) := by decide +kernel
theorem dX8_of_109 : decode cX8_of 109 = .ok (.aload_n 0, 1) := by decide +kernel
theorem dX8_of_110 : decode cX8_of 110 = .ok (.getfield 10, 3) := by decide +kernel
theorem dX8_of_113 : decode cX8_of 113 = .ok (.getfield 71, 3) := by decide +kernel
theorem dX8_of_116 : decode cX8_of 116 = .ok (.if_icmp .ge 15, 3) := by decide +kernel
theorem dX8_of_119 : decode cX8_of 119 = .ok (.aload_n 0, 1) := by decide +kernel
theorem dX8_of_120 : decode cX8_of 120 = .ok (.getfield 10, 3) := by decide +kernel
theorem dX8_of_123 : decode cX8_of 123 = .ok (.iload_n 1, 1) := by decide +kernel
theorem dX8_of_124 : decode cX8_of 124 = .ok (.iload_n 2, 1) := by decide +kernel
theorem dX8_of_125 : decode cX8_of 125 = .ok (.invokevirtual 148, 3) := by decide +kernel
theorem dX8_of_128 : decode cX8_of 128 = .ok (.goto 5, 3) := by decide +kernel
theorem dX8_of_131 : decode cX8_of 131 = .ok (.ldc 126, 2) := by decide +kernel
theorem dX8_of_133 : decode cX8_of 133 = .ok (.ireturn, 1) := by decide +kernel
theorem dX8_of_134 : decode cX8_of 134 = .ok (.ldc 126, 2) := by decide +kernel
theorem dX8_of_136 : decode cX8_of 136 = .ok (.ireturn, 1) := by decide +kernel
theorem dX8_meet_0 : decode cX8_meet 0 = .ok (.aload_n 0, 1) := by decide +kernel
theorem dX8_meet_1 : decode cX8_meet 1 = .ok (.getfield 28, 3) := by decide +kernel
theorem dX8_meet_4 : decode cX8_meet 4 = .ok (.iload_n 1, 1) := by decide +kernel
theorem dX8_meet_5 : decode cX8_meet 5 = .ok (.invokevirtual 151, 3) := by decide +kernel
theorem dX8_meet_8 : decode cX8_meet 8 = .ok (.ifCond .ne 5, 3) := by decide +kernel
theorem dX8_meet_11 : decode cX8_meet 11 = .ok (.iconst (-1), 1) := by decide +kernel
theorem dX8_meet_12 : decode cX8_meet 12 = .ok (.ireturn, 1) := by decide +kernel
theorem dX8_meet_13 : decode cX8_meet 13 = .ok (.aload_n 0, 1) := by decide +kernel
theorem dX8_meet_14 : decode cX8_meet 14 = .ok (.getfield 10, 3) := by decide +kernel
theorem dX8_meet_17 : decode cX8_meet 17 = .ok (.invokevirtual 154, 3) := by decide +kernel
theorem dX8_meet_20 : decode cX8_meet 20 = .ok (.ifCond .eq 8, 3) := by decide +kernel
theorem dX8_meet_23 : decode cX8_meet 23 = .ok (.bipush (-5), 2) := by decide +kernel
theorem dX8_meet_25 : decode cX8_meet 25 = .ok (.goto 10, 3) := by decide +kernel
theorem dX8_meet_28 : decode cX8_meet 28 = .ok (.aload_n 0, 1) := by decide +kernel
theorem dX8_meet_29 : decode cX8_meet 29 = .ok (.getfield 28, 3) := by decide +kernel
theorem dX8_meet_32 : decode cX8_meet 32 = .ok (.invokevirtual 157, 3) := by decide +kernel
theorem dX8_meet_35 : decode cX8_meet 35 = .ok (.ireturn, 1) := by decide +kernel
theorem dX8_told_0 : decode cX8_told 0 = .ok (.iload_n 1, 1) := by decide +kernel
theorem dX8_told_1 : decode cX8_told 1 = .ok (.ifCond .lt 9, 3) := by decide +kernel
theorem dX8_told_4 : decode cX8_told 4 = .ok (.iload_n 1, 1) := by decide +kernel
theorem dX8_told_5 : decode cX8_told 5 = .ok (.bipush 9, 2) := by decide +kernel
theorem dX8_told_7 : decode cX8_told 7 = .ok (.if_icmp .le 5, 3) := by decide +kernel
theorem dX8_told_10 : decode cX8_told 10 = .ok (.iconst (-1), 1) := by decide +kernel
theorem dX8_told_11 : decode cX8_told 11 = .ok (.ireturn, 1) := by decide +kernel
theorem dX8_told_12 : decode cX8_told 12 = .ok (.aload_n 0, 1) := by decide +kernel
theorem dX8_told_13 : decode cX8_told 13 = .ok (.getfield 28, 3) := by decide +kernel
theorem dX8_told_16 : decode cX8_told 16 = .ok (.getfield 160, 3) := by decide +kernel
theorem dX8_told_19 : decode cX8_told 19 = .ok (.ifCond .eq 15, 3) := by decide +kernel
theorem dX8_told_22 : decode cX8_told 22 = .ok (.aload_n 0, 1) := by decide +kernel
theorem dX8_told_23 : decode cX8_told 23 = .ok (.getfield 28, 3) := by decide +kernel
theorem dX8_told_26 : decode cX8_told 26 = .ok (.getfield 164, 3) := by decide +kernel
theorem dX8_told_29 : decode cX8_told 29 = .ok (.iload_n 1, 1) := by decide +kernel
theorem dX8_told_30 : decode cX8_told 30 = .ok (.iaload, 1) := by decide +kernel
theorem dX8_told_31 : decode cX8_told 31 = .ok (.goto 5, 3) := by decide +kernel
theorem dX8_told_34 : decode cX8_told 34 = .ok (.bipush (-5), 2) := by decide +kernel
theorem dX8_told_36 : decode cX8_told 36 = .ok (.ireturn, 1) := by decide +kernel
theorem dX8_saying_0 : decode cX8_saying 0 = .ok (.iload_n 2, 1) := by decide +kernel
theorem dX8_saying_1 : decode cX8_saying 1 = .ok (.ifCond .lt 9, 3) := by decide +kernel
theorem dX8_saying_4 : decode cX8_saying 4 = .ok (.iload_n 2, 1) := by decide +kernel
theorem dX8_saying_5 : decode cX8_saying 5 = .ok (.bipush 7, 2) := by decide +kernel
theorem dX8_saying_7 : decode cX8_saying 7 = .ok (.if_icmp .lt 5, 3) := by decide +kernel
theorem dX8_saying_10 : decode cX8_saying 10 = .ok (.iconst (-1), 1) := by decide +kernel
theorem dX8_saying_11 : decode cX8_saying 11 = .ok (.ireturn, 1) := by decide +kernel
theorem dX8_saying_12 : decode cX8_saying 12 = .ok (.aload_n 0, 1) := by decide +kernel
theorem dX8_saying_13 : decode cX8_saying 13 = .ok (.getfield 28, 3) := by decide +kernel
theorem dX8_saying_16 : decode cX8_saying 16 = .ok (.getfield 160, 3) := by decide +kernel
theorem dX8_saying_19 : decode cX8_saying 19 = .ok (.ifCond .ne 6, 3) := by decide +kernel
theorem dX8_saying_22 : decode cX8_saying 22 = .ok (.bipush (-5), 2) := by decide +kernel
theorem dX8_saying_24 : decode cX8_saying 24 = .ok (.ireturn, 1) := by decide +kernel
theorem dX8_saying_25 : decode cX8_saying 25 = .ok (.iload_n 1, 1) := by decide +kernel
theorem dX8_saying_26 : decode cX8_saying 26 = .ok (.ifCond .lt 17, 3) := by decide +kernel
theorem dX8_saying_29 : decode cX8_saying 29 = .ok (.iload_n 1, 1) := by decide +kernel
theorem dX8_saying_30 : decode cX8_saying 30 = .ok (.aload_n 0, 1) := by decide +kernel
theorem dX8_saying_31 : decode cX8_saying 31 = .ok (.getfield 28, 3) := by decide +kernel
theorem dX8_saying_34 : decode cX8_saying 34 = .ok (.getfield 167, 3) := by decide +kernel
theorem dX8_saying_37 : decode cX8_saying 37 = .ok (.getfield 171, 3) := by decide +kernel
theorem dX8_saying_40 : decode cX8_saying 40 = .ok (.if_icmp .lt 7, 3) := by decide +kernel
theorem dX8_saying_43 : decode cX8_saying 43 = .ok (.iconst (-1), 1) := by decide +kernel
theorem dX8_saying_44 : decode cX8_saying 44 = .ok (.goto 20, 3) := by decide +kernel
theorem dX8_saying_47 : decode cX8_saying 47 = .ok (.aload_n 0, 1) := by decide +kernel
theorem dX8_saying_48 : decode cX8_saying 48 = .ok (.getfield 28, 3) := by decide +kernel
theorem dX8_saying_51 : decode cX8_saying 51 = .ok (.getfield 167, 3) := by decide +kernel
theorem dX8_saying_54 : decode cX8_saying 54 = .ok (.getfield 176, 3) := by decide +kernel
theorem dX8_saying_57 : decode cX8_saying 57 = .ok (.iload_n 1, 1) := by decide +kernel
theorem dX8_saying_58 : decode cX8_saying 58 = .ok (.bipush 7, 2) := by decide +kernel
theorem dX8_saying_60 : decode cX8_saying 60 = .ok (.imul, 1) := by decide +kernel
theorem dX8_saying_61 : decode cX8_saying 61 = .ok (.iload_n 2, 1) := by decide +kernel
theorem dX8_saying_62 : decode cX8_saying 62 = .ok (.iadd, 1) := by decide +kernel
theorem dX8_saying_63 : decode cX8_saying 63 = .ok (.iaload, 1) := by decide +kernel
theorem dX8_saying_64 : decode cX8_saying 64 = .ok (.ireturn, 1) := by decide +kernel
theorem dX8_took_0 : decode cX8_took 0 = .ok (.aload_n 0, 1) := by decide +kernel
theorem dX8_took_1 : decode cX8_took 1 = .ok (.getfield 28, 3) := by decide +kernel
theorem dX8_took_4 : decode cX8_took 4 = .ok (.iload_n 1, 1) := by decide +kernel
theorem dX8_took_5 : decode cX8_took 5 = .ok (.invokevirtual 179, 3) := by decide +kernel
theorem dX8_took_8 : decode cX8_took 8 = .ok (.ifCond .eq 12, 3) := by decide +kernel
theorem dX8_took_11 : decode cX8_took 11 = .ok (.iload_n 2, 1) := by decide +kernel
theorem dX8_took_12 : decode cX8_took 12 = .ok (.ifCond .lt 8, 3) := by decide +kernel
theorem dX8_took_15 : decode cX8_took 15 = .ok (.iload_n 2, 1) := by decide +kernel
theorem dX8_took_16 : decode cX8_took 16 = .ok (.iconst 1, 1) := by decide +kernel
theorem dX8_took_17 : decode cX8_took 17 = .ok (.if_icmp .le 6, 3) := by decide +kernel
theorem dX8_took_20 : decode cX8_took 20 = .ok (.ldc 126, 2) := by decide +kernel
theorem dX8_took_22 : decode cX8_took 22 = .ok (.ireturn, 1) := by decide +kernel
theorem dX8_took_23 : decode cX8_took 23 = .ok (.iload_n 2, 1) := by decide +kernel
theorem dX8_took_24 : decode cX8_took 24 = .ok (.ifCond .ne 16, 3) := by decide +kernel
theorem dX8_took_27 : decode cX8_took 27 = .ok (.aload_n 0, 1) := by decide +kernel
theorem dX8_took_28 : decode cX8_took 28 = .ok (.getfield 28, 3) := by decide +kernel
theorem dX8_took_31 : decode cX8_took 31 = .ok (.getfield 167, 3) := by decide +kernel
theorem dX8_took_34 : decode cX8_took 34 = .ok (.getfield 182, 3) := by decide +kernel
theorem dX8_took_37 : decode cX8_took 37 = .ok (.goto 10, 3) := by decide +kernel
theorem dX8_took_40 : decode cX8_took 40 = .ok (.aload_n 0, 1) := by decide +kernel
theorem dX8_took_41 : decode cX8_took 41 = .ok (.getfield 28, 3) := by decide +kernel
theorem dX8_took_44 : decode cX8_took 44 = .ok (.getfield 185, 3) := by decide +kernel
theorem dX8_took_47 : decode cX8_took 47 = .ok (.iload_n 1, 1) := by decide +kernel
theorem dX8_took_48 : decode cX8_took 48 = .ok (.iaload, 1) := by decide +kernel
theorem dX8_took_49 : decode cX8_took 49 = .ok (.ireturn, 1) := by decide +kernel
theorem dX8_did_0 : decode cX8_did 0 = .ok (.iload_n 2, 1) := by decide +kernel
theorem dX8_did_1 : decode cX8_did 1 = .ok (.ifCond .lt 8, 3) := by decide +kernel
theorem dX8_did_4 : decode cX8_did 4 = .ok (.iload_n 2, 1) := by decide +kernel
theorem dX8_did_5 : decode cX8_did 5 = .ok (.iconst 3, 1) := by decide +kernel
theorem dX8_did_6 : decode cX8_did 6 = .ok (.if_icmp .le 5, 3) := by decide +kernel
theorem dX8_did_9 : decode cX8_did 9 = .ok (.iconst (-1), 1) := by decide +kernel
theorem dX8_did_10 : decode cX8_did 10 = .ok (.ireturn, 1) := by decide +kernel
theorem dX8_did_11 : decode cX8_did 11 = .ok (.aload_n 0, 1) := by decide +kernel
theorem dX8_did_12 : decode cX8_did 12 = .ok (.getfield 28, 3) := by decide +kernel
theorem dX8_did_15 : decode cX8_did 15 = .ok (.getfield 160, 3) := by decide +kernel
theorem dX8_did_18 : decode cX8_did 18 = .ok (.ifCond .ne 6, 3) := by decide +kernel
theorem dX8_did_21 : decode cX8_did 21 = .ok (.bipush (-5), 2) := by decide +kernel
theorem dX8_did_23 : decode cX8_did 23 = .ok (.ireturn, 1) := by decide +kernel
theorem dX8_did_24 : decode cX8_did 24 = .ok (.aload_n 0, 1) := by decide +kernel
theorem dX8_did_25 : decode cX8_did 25 = .ok (.getfield 28, 3) := by decide +kernel
theorem dX8_did_28 : decode cX8_did 28 = .ok (.iload_n 1, 1) := by decide +kernel
theorem dX8_did_29 : decode cX8_did 29 = .ok (.invokevirtual 188, 3) := by decide +kernel
theorem dX8_did_32 : decode cX8_did 32 = .ok (.ifCond .eq 15, 3) := by decide +kernel
theorem dX8_did_35 : decode cX8_did 35 = .ok (.aload_n 0, 1) := by decide +kernel
theorem dX8_did_36 : decode cX8_did 36 = .ok (.getfield 28, 3) := by decide +kernel
theorem dX8_did_39 : decode cX8_did 39 = .ok (.iload_n 1, 1) := by decide +kernel
theorem dX8_did_40 : decode cX8_did 40 = .ok (.iload_n 2, 1) := by decide +kernel
theorem dX8_did_41 : decode cX8_did 41 = .ok (.invokevirtual 191, 3) := by decide +kernel
theorem dX8_did_44 : decode cX8_did 44 = .ok (.goto 4, 3) := by decide +kernel
theorem dX8_did_47 : decode cX8_did 47 = .ok (.iconst (-1), 1) := by decide +kernel
theorem dX8_did_48 : decode cX8_did 48 = .ok (.ireturn, 1) := by decide +kernel
theorem dX8_first_0 : decode cX8_first 0 = .ok (.aload_n 0, 1) := by decide +kernel
theorem dX8_first_1 : decode cX8_first 1 = .ok (.getfield 28, 3) := by decide +kernel
theorem dX8_first_4 : decode cX8_first 4 = .ok (.iload_n 1, 1) := by decide +kernel
theorem dX8_first_5 : decode cX8_first 5 = .ok (.invokevirtual 192, 3) := by decide +kernel
theorem dX8_first_8 : decode cX8_first 8 = .ok (.ifCond .eq 12, 3) := by decide +kernel
theorem dX8_first_11 : decode cX8_first 11 = .ok (.iload_n 2, 1) := by decide +kernel
theorem dX8_first_12 : decode cX8_first 12 = .ok (.ifCond .lt 8, 3) := by decide +kernel
theorem dX8_first_15 : decode cX8_first 15 = .ok (.iload_n 2, 1) := by decide +kernel
theorem dX8_first_16 : decode cX8_first 16 = .ok (.iconst 1, 1) := by decide +kernel
theorem dX8_first_17 : decode cX8_first 17 = .ok (.if_icmp .le 6, 3) := by decide +kernel
theorem dX8_first_20 : decode cX8_first 20 = .ok (.ldc 126, 2) := by decide +kernel
theorem dX8_first_22 : decode cX8_first 22 = .ok (.ireturn, 1) := by decide +kernel
theorem dX8_first_23 : decode cX8_first 23 = .ok (.iload_n 2, 1) := by decide +kernel
theorem dX8_first_24 : decode cX8_first 24 = .ok (.ifCond .ne 16, 3) := by decide +kernel
theorem dX8_first_27 : decode cX8_first 27 = .ok (.aload_n 0, 1) := by decide +kernel
theorem dX8_first_28 : decode cX8_first 28 = .ok (.getfield 28, 3) := by decide +kernel
theorem dX8_first_31 : decode cX8_first 31 = .ok (.getfield 167, 3) := by decide +kernel
theorem dX8_first_34 : decode cX8_first 34 = .ok (.getfield 195, 3) := by decide +kernel
theorem dX8_first_37 : decode cX8_first 37 = .ok (.goto 13, 3) := by decide +kernel
theorem dX8_first_40 : decode cX8_first 40 = .ok (.aload_n 0, 1) := by decide +kernel
theorem dX8_first_41 : decode cX8_first 41 = .ok (.getfield 28, 3) := by decide +kernel
theorem dX8_first_44 : decode cX8_first 44 = .ok (.getfield 167, 3) := by decide +kernel
theorem dX8_first_47 : decode cX8_first 47 = .ok (.getfield 198, 3) := by decide +kernel
theorem dX8_first_50 : decode cX8_first 50 = .ok (.iload_n 1, 1) := by decide +kernel
theorem dX8_first_51 : decode cX8_first 51 = .ok (.iaload, 1) := by decide +kernel
theorem dX8_first_52 : decode cX8_first 52 = .ok (.ireturn, 1) := by decide +kernel
theorem dX8_rule_0 : decode cX8_rule 0 = .ok (.aload_n 0, 1) := by decide +kernel
theorem dX8_rule_1 : decode cX8_rule 1 = .ok (.getfield 35, 3) := by decide +kernel
theorem dX8_rule_4 : decode cX8_rule 4 = .ok (.iconst 0, 1) := by decide +kernel
theorem dX8_rule_5 : decode cX8_rule 5 = .ok (.iload_n 1, 1) := by decide +kernel
theorem dX8_rule_6 : decode cX8_rule 6 = .ok (.invokevirtual 201, 3) := by decide +kernel
theorem dX8_rule_9 : decode cX8_rule 9 = .ok (.ireturn, 1) := by decide +kernel
theorem dX8_order_0 : decode cX8_order 0 = .ok (.aload_n 0, 1) := by decide +kernel
theorem dX8_order_1 : decode cX8_order 1 = .ok (.getfield 35, 3) := by decide +kernel
theorem dX8_order_4 : decode cX8_order 4 = .ok (.iconst 1, 1) := by decide +kernel
theorem dX8_order_5 : decode cX8_order 5 = .ok (.iload_n 1, 1) := by decide +kernel
theorem dX8_order_6 : decode cX8_order 6 = .ok (.invokevirtual 201, 3) := by decide +kernel
theorem dX8_order_9 : decode cX8_order 9 = .ok (.ireturn, 1) := by decide +kernel
theorem dX8_times_0 : decode cX8_times 0 = .ok (.aload_n 0, 1) := by decide +kernel
theorem dX8_times_1 : decode cX8_times 1 = .ok (.getfield 35, 3) := by decide +kernel
theorem dX8_times_4 : decode cX8_times 4 = .ok (.iconst 2, 1) := by decide +kernel
theorem dX8_times_5 : decode cX8_times 5 = .ok (.iload_n 1, 1) := by decide +kernel
theorem dX8_times_6 : decode cX8_times 6 = .ok (.invokevirtual 201, 3) := by decide +kernel
theorem dX8_times_9 : decode cX8_times 9 = .ok (.ireturn, 1) := by decide +kernel
theorem dX8_film_0 : decode cX8_film 0 = .ok (.iload_n 1, 1) := by decide +kernel
theorem dX8_film_1 : decode cX8_film 1 = .ok (.invokestatic 78, 3) := by decide +kernel
theorem dX8_film_4 : decode cX8_film 4 = .ok (.ifCond .eq 5, 3) := by decide +kernel
theorem dX8_film_7 : decode cX8_film 7 = .ok (.iconst (-1), 1) := by decide +kernel
theorem dX8_film_8 : decode cX8_film 8 = .ok (.ireturn, 1) := by decide +kernel
theorem dX8_film_9 : decode cX8_film 9 = .ok (.aload_n 0, 1) := by decide +kernel
theorem dX8_film_10 : decode cX8_film 10 = .ok (.getfield 48, 3) := by decide +kernel
theorem dX8_film_13 : decode cX8_film 13 = .ok (.iload_n 1, 1) := by decide +kernel
theorem dX8_film_14 : decode cX8_film 14 = .ok (.aaload, 1) := by decide +kernel
theorem dX8_film_15 : decode cX8_film 15 = .ok (.astore_n 2, 1) := by decide +kernel
theorem dX8_film_16 : decode cX8_film 16 = .ok (.aload_n 2, 1) := by decide +kernel
theorem dX8_film_17 : decode cX8_film 17 = .ok (.getfield 82, 3) := by decide +kernel
theorem dX8_film_20 : decode cX8_film 20 = .ok (.bipush (-2), 2) := by decide +kernel
theorem dX8_film_22 : decode cX8_film 22 = .ok (.if_icmp .ne 6, 3) := by decide +kernel
theorem dX8_film_25 : decode cX8_film 25 = .ok (.bipush (-11), 2) := by decide +kernel
theorem dX8_film_27 : decode cX8_film 27 = .ok (.ireturn, 1) := by decide +kernel
theorem dX8_film_28 : decode cX8_film 28 = .ok (.aload_n 2, 1) := by decide +kernel
theorem dX8_film_29 : decode cX8_film 29 = .ok (.getfield 82, 3) := by decide +kernel
theorem dX8_film_32 : decode cX8_film 32 = .ok (.ifCond .eq 6, 3) := by decide +kernel
theorem dX8_film_35 : decode cX8_film 35 = .ok (.bipush (-12), 2) := by decide +kernel
theorem dX8_film_37 : decode cX8_film 37 = .ok (.ireturn, 1) := by decide +kernel
theorem dX8_film_38 : decode cX8_film 38 = .ok (.aload_n 0, 1) := by decide +kernel
theorem dX8_film_39 : decode cX8_film 39 = .ok (.getfield 10, 3) := by decide +kernel
theorem dX8_film_42 : decode cX8_film 42 = .ok (.invokevirtual 154, 3) := by decide +kernel
theorem dX8_film_45 : decode cX8_film 45 = .ok (.ifCond .eq 8, 3) := by decide +kernel
theorem dX8_film_48 : decode cX8_film 48 = .ok (.bipush (-5), 2) := by decide +kernel
theorem dX8_film_50 : decode cX8_film 50 = .ok (.goto 11, 3) := by decide +kernel
theorem dX8_film_53 : decode cX8_film 53 = .ok (.aload_n 0, 1) := by decide +kernel
theorem dX8_film_54 : decode cX8_film 54 = .ok (.getfield 35, 3) := by decide +kernel
theorem dX8_film_57 : decode cX8_film 57 = .ok (.aload_n 2, 1) := by decide +kernel
theorem dX8_film_58 : decode cX8_film 58 = .ok (.invokevirtual 204, 3) := by decide +kernel
theorem dX8_film_61 : decode cX8_film 61 = .ok (.ireturn, 1) := by decide +kernel
theorem dX8_wish_0 : decode cX8_wish 0 = .ok (.iload_n 1, 1) := by decide +kernel
theorem dX8_wish_1 : decode cX8_wish 1 = .ok (.ifCond .lt 29, 3) := by decide +kernel
theorem dX8_wish_4 : decode cX8_wish 4 = .ok (.iload_n 1, 1) := by decide +kernel
theorem dX8_wish_5 : decode cX8_wish 5 = .ok (.aload_n 0, 1) := by decide +kernel
theorem dX8_wish_6 : decode cX8_wish 6 = .ok (.getfield 10, 3) := by decide +kernel
theorem dX8_wish_9 : decode cX8_wish 9 = .ok (.getfield 53, 3) := by decide +kernel
theorem dX8_wish_12 : decode cX8_wish 12 = .ok (.if_icmp .ge 18, 3) := by decide +kernel
theorem dX8_wish_15 : decode cX8_wish 15 = .ok (.iload_n 2, 1) := by decide +kernel
theorem dX8_wish_16 : decode cX8_wish 16 = .ok (.ifCond .lt 14, 3) := by decide +kernel
theorem dX8_wish_19 : decode cX8_wish 19 = .ok (.iload_n 2, 1) := by decide +kernel
theorem dX8_wish_20 : decode cX8_wish 20 = .ok (.aload_n 0, 1) := by decide +kernel
theorem dX8_wish_21 : decode cX8_wish 21 = .ok (.getfield 10, 3) := by decide +kernel
theorem dX8_wish_24 : decode cX8_wish 24 = .ok (.getfield 61, 3) := by decide +kernel
theorem dX8_wish_27 : decode cX8_wish 27 = .ok (.if_icmp .lt 6, 3) := by decide +kernel
theorem dX8_wish_30 : decode cX8_wish 30 = .ok (.ldc 126, 2) := by decide +kernel
theorem dX8_wish_32 : decode cX8_wish 32 = .ok (.ireturn, 1) := by decide +kernel
theorem dX8_wish_33 : decode cX8_wish 33 = .ok (.aload_n 0, 1) := by decide +kernel
theorem dX8_wish_34 : decode cX8_wish 34 = .ok (.getfield 35, 3) := by decide +kernel
theorem dX8_wish_37 : decode cX8_wish 37 = .ok (.iload_n 1, 1) := by decide +kernel
theorem dX8_wish_38 : decode cX8_wish 38 = .ok (.iload_n 2, 1) := by decide +kernel
theorem dX8_wish_39 : decode cX8_wish 39 = .ok (.invokevirtual 208, 3) := by decide +kernel
theorem dX8_wish_42 : decode cX8_wish 42 = .ok (.ireturn, 1) := by decide +kernel
theorem dX8_undo_0 : decode cX8_undo 0 = .ok (.aload_n 0, 1) := by decide +kernel
theorem dX8_undo_1 : decode cX8_undo 1 = .ok (.getfield 19, 3) := by decide +kernel
theorem dX8_undo_4 : decode cX8_undo 4 = .ok (.invokevirtual 211, 3) := by decide +kernel
theorem dX8_undo_7 : decode cX8_undo 7 = .ok (.ifCond .ne 6, 3) := by decide +kernel
theorem dX8_undo_10 : decode cX8_undo 10 = .ok (.bipush (-5), 2) := by decide +kernel
theorem dX8_undo_12 : decode cX8_undo 12 = .ok (.ireturn, 1) := by decide +kernel
theorem dX8_undo_13 : decode cX8_undo 13 = .ok (.aload_n 0, 1) := by decide +kernel
theorem dX8_undo_14 : decode cX8_undo 14 = .ok (.getfield 19, 3) := by decide +kernel
theorem dX8_undo_17 : decode cX8_undo 17 = .ok (.getfield 214, 3) := by decide +kernel
theorem dX8_undo_20 : decode cX8_undo 20 = .ok (.istore_n 1, 1) := by decide +kernel
theorem dX8_undo_21 : decode cX8_undo 21 = .ok (.aload_n 0, 1) := by decide +kernel
theorem dX8_undo_22 : decode cX8_undo 22 = .ok (.getfield 10, 3) := by decide +kernel
theorem dX8_undo_25 : decode cX8_undo 25 = .ok (.aload_n 0, 1) := by decide +kernel
theorem dX8_undo_26 : decode cX8_undo 26 = .ok (.getfield 19, 3) := by decide +kernel
theorem dX8_undo_29 : decode cX8_undo 29 = .ok (.getfield 217, 3) := by decide +kernel
theorem dX8_undo_32 : decode cX8_undo 32 = .ok (.iload_n 1, 1) := by decide +kernel
theorem dX8_undo_33 : decode cX8_undo 33 = .ok (.iaload, 1) := by decide +kernel
theorem dX8_undo_34 : decode cX8_undo 34 = .ok (.aload_n 0, 1) := by decide +kernel
theorem dX8_undo_35 : decode cX8_undo 35 = .ok (.getfield 19, 3) := by decide +kernel
theorem dX8_undo_38 : decode cX8_undo 38 = .ok (.getfield 220, 3) := by decide +kernel
theorem dX8_undo_41 : decode cX8_undo 41 = .ok (.iload_n 1, 1) := by decide +kernel
theorem dX8_undo_42 : decode cX8_undo 42 = .ok (.iaload, 1) := by decide +kernel
theorem dX8_undo_43 : decode cX8_undo 43 = .ok (.aload_n 0, 1) := by decide +kernel
theorem dX8_undo_44 : decode cX8_undo 44 = .ok (.getfield 19, 3) := by decide +kernel
theorem dX8_undo_47 : decode cX8_undo 47 = .ok (.getfield 223, 3) := by decide +kernel
theorem dX8_undo_50 : decode cX8_undo 50 = .ok (.iload_n 1, 1) := by decide +kernel
theorem dX8_undo_51 : decode cX8_undo 51 = .ok (.iaload, 1) := by decide +kernel
theorem dX8_undo_52 : decode cX8_undo 52 = .ok (.invokevirtual 135, 3) := by decide +kernel
theorem dX8_undo_55 : decode cX8_undo 55 = .ok (.aload_n 0, 1) := by decide +kernel
theorem dX8_undo_56 : decode cX8_undo 56 = .ok (.getfield 19, 3) := by decide +kernel
theorem dX8_undo_59 : decode cX8_undo 59 = .ok (.getfield 214, 3) := by decide +kernel
theorem dX8_undo_62 : decode cX8_undo 62 = .ok (.ireturn, 1) := by decide +kernel
theorem dX8_redo_0 : decode cX8_redo 0 = .ok (.aload_n 0, 1) := by decide +kernel
theorem dX8_redo_1 : decode cX8_redo 1 = .ok (.getfield 19, 3) := by decide +kernel
theorem dX8_redo_4 : decode cX8_redo 4 = .ok (.invokevirtual 226, 3) := by decide +kernel
theorem dX8_redo_7 : decode cX8_redo 7 = .ok (.ifCond .ne 6, 3) := by decide +kernel
theorem dX8_redo_10 : decode cX8_redo 10 = .ok (.bipush (-5), 2) := by decide +kernel
theorem dX8_redo_12 : decode cX8_redo 12 = .ok (.ireturn, 1) := by decide +kernel
theorem dX8_redo_13 : decode cX8_redo 13 = .ok (.aload_n 0, 1) := by decide +kernel
theorem dX8_redo_14 : decode cX8_redo 14 = .ok (.getfield 19, 3) := by decide +kernel
theorem dX8_redo_17 : decode cX8_redo 17 = .ok (.getfield 214, 3) := by decide +kernel
theorem dX8_redo_20 : decode cX8_redo 20 = .ok (.iconst 1, 1) := by decide +kernel
theorem dX8_redo_21 : decode cX8_redo 21 = .ok (.isub, 1) := by decide +kernel
theorem dX8_redo_22 : decode cX8_redo 22 = .ok (.istore_n 1, 1) := by decide +kernel
theorem dX8_redo_23 : decode cX8_redo 23 = .ok (.aload_n 0, 1) := by decide +kernel
theorem dX8_redo_24 : decode cX8_redo 24 = .ok (.getfield 10, 3) := by decide +kernel
theorem dX8_redo_27 : decode cX8_redo 27 = .ok (.aload_n 0, 1) := by decide +kernel
theorem dX8_redo_28 : decode cX8_redo 28 = .ok (.getfield 19, 3) := by decide +kernel
theorem dX8_redo_31 : decode cX8_redo 31 = .ok (.getfield 217, 3) := by decide +kernel
theorem dX8_redo_34 : decode cX8_redo 34 = .ok (.iload_n 1, 1) := by decide +kernel
theorem dX8_redo_35 : decode cX8_redo 35 = .ok (.iaload, 1) := by decide +kernel
theorem dX8_redo_36 : decode cX8_redo 36 = .ok (.aload_n 0, 1) := by decide +kernel
theorem dX8_redo_37 : decode cX8_redo 37 = .ok (.getfield 19, 3) := by decide +kernel
theorem dX8_redo_40 : decode cX8_redo 40 = .ok (.getfield 220, 3) := by decide +kernel
theorem dX8_redo_43 : decode cX8_redo 43 = .ok (.iload_n 1, 1) := by decide +kernel
theorem dX8_redo_44 : decode cX8_redo 44 = .ok (.iaload, 1) := by decide +kernel
theorem dX8_redo_45 : decode cX8_redo 45 = .ok (.aload_n 0, 1) := by decide +kernel
theorem dX8_redo_46 : decode cX8_redo 46 = .ok (.getfield 19, 3) := by decide +kernel
theorem dX8_redo_49 : decode cX8_redo 49 = .ok (.getfield 229, 3) := by decide +kernel
theorem dX8_redo_52 : decode cX8_redo 52 = .ok (.iload_n 1, 1) := by decide +kernel
theorem dX8_redo_53 : decode cX8_redo 53 = .ok (.iaload, 1) := by decide +kernel
theorem dX8_redo_54 : decode cX8_redo 54 = .ok (.invokevirtual 135, 3) := by decide +kernel
theorem dX8_redo_57 : decode cX8_redo 57 = .ok (.aload_n 0, 1) := by decide +kernel
theorem dX8_redo_58 : decode cX8_redo 58 = .ok (.getfield 19, 3) := by decide +kernel
theorem dX8_redo_61 : decode cX8_redo 61 = .ok (.getfield 232, 3) := by decide +kernel
theorem dX8_redo_64 : decode cX8_redo 64 = .ok (.aload_n 0, 1) := by decide +kernel
theorem dX8_redo_65 : decode cX8_redo 65 = .ok (.getfield 19, 3) := by decide +kernel
theorem dX8_redo_68 : decode cX8_redo 68 = .ok (.getfield 214, 3) := by decide +kernel
theorem dX8_redo_71 : decode cX8_redo 71 = .ok (.isub, 1) := by decide +kernel
theorem dX8_redo_72 : decode cX8_redo 72 = .ok (.ireturn, 1) := by decide +kernel
theorem dX8_body_0 : decode cX8_body 0 = .ok (.iload_n 1, 1) := by decide +kernel
theorem dX8_body_1 : decode cX8_body 1 = .ok (.ifCond .lt 9, 3) := by decide +kernel
theorem dX8_body_4 : decode cX8_body 4 = .ok (.iload_n 1, 1) := by decide +kernel
theorem dX8_body_5 : decode cX8_body 5 = .ok (.bipush 8, 2) := by decide +kernel
theorem dX8_body_7 : decode cX8_body 7 = .ok (.if_icmp .lt 5, 3) := by decide +kernel
theorem dX8_body_10 : decode cX8_body 10 = .ok (.iconst (-1), 1) := by decide +kernel
theorem dX8_body_11 : decode cX8_body 11 = .ok (.ireturn, 1) := by decide +kernel
theorem dX8_body_12 : decode cX8_body 12 = .ok (.aload_n 0, 1) := by decide +kernel
theorem dX8_body_13 : decode cX8_body 13 = .ok (.getfield 42, 3) := by decide +kernel
theorem dX8_body_16 : decode cX8_body 16 = .ok (.getfield 235, 3) := by decide +kernel
theorem dX8_body_19 : decode cX8_body 19 = .ok (.bipush 50, 2) := by decide +kernel
theorem dX8_body_21 : decode cX8_body 21 = .ok (.if_icmp .lt 8, 3) := by decide +kernel
theorem dX8_body_24 : decode cX8_body 24 = .ok (.bipush (-3), 2) := by decide +kernel
theorem dX8_body_26 : decode cX8_body 26 = .ok (.goto 11, 3) := by decide +kernel
theorem dX8_body_29 : decode cX8_body 29 = .ok (.aload_n 0, 1) := by decide +kernel
theorem dX8_body_30 : decode cX8_body 30 = .ok (.getfield 42, 3) := by decide +kernel
theorem dX8_body_33 : decode cX8_body 33 = .ok (.iload_n 1, 1) := by decide +kernel
theorem dX8_body_34 : decode cX8_body 34 = .ok (.invokevirtual 238, 3) := by decide +kernel
theorem dX8_body_37 : decode cX8_body 37 = .ok (.ireturn, 1) := by decide +kernel
theorem dX8_act_0 : decode cX8_act 0 = .ok (.aload_n 0, 1) := by decide +kernel
theorem dX8_act_1 : decode cX8_act 1 = .ok (.getfield 42, 3) := by decide +kernel
theorem dX8_act_4 : decode cX8_act 4 = .ok (.iconst 0, 1) := by decide +kernel
theorem dX8_act_5 : decode cX8_act 5 = .ok (.putfield 241, 3) := by decide +kernel
theorem dX8_act_8 : decode cX8_act 8 = .ok (.iload_n 1, 1) := by decide +kernel
theorem dX8_act_9 : decode cX8_act 9 = .ok (.ifCond .lt 23, 3) := by decide +kernel
theorem dX8_act_12 : decode cX8_act 12 = .ok (.iload_n 1, 1) := by decide +kernel
theorem dX8_act_13 : decode cX8_act 13 = .ok (.aload_n 0, 1) := by decide +kernel
theorem dX8_act_14 : decode cX8_act 14 = .ok (.getfield 42, 3) := by decide +kernel
theorem dX8_act_17 : decode cX8_act 17 = .ok (.getfield 235, 3) := by decide +kernel
theorem dX8_act_20 : decode cX8_act 20 = .ok (.if_icmp .ge 12, 3) := by decide +kernel
theorem dX8_act_23 : decode cX8_act 23 = .ok (.iload_n 2, 1) := by decide +kernel
theorem dX8_act_24 : decode cX8_act 24 = .ok (.ifCond .lt 8, 3) := by decide +kernel
theorem dX8_act_27 : decode cX8_act 27 = .ok (.iload_n 2, 1) := by decide +kernel
theorem dX8_act_28 : decode cX8_act 28 = .ok (.iconst 4, 1) := by decide +kernel
theorem dX8_act_29 : decode cX8_act 29 = .ok (.if_icmp .lt 5, 3) := by decide +kernel
theorem dX8_act_32 : decode cX8_act 32 = .ok (.iconst 0, 1) := by decide +kernel
theorem dX8_act_33 : decode cX8_act 33 = .ok (.ireturn, 1) := by decide +kernel
theorem dX8_act_34 : decode cX8_act 34 = .ok (.aload_n 0, 1) := by decide +kernel
theorem dX8_act_35 : decode cX8_act 35 = .ok (.getfield 42, 3) := by decide +kernel
theorem dX8_act_38 : decode cX8_act 38 = .ok (.iload_n 1, 1) := by decide +kernel
theorem dX8_act_39 : decode cX8_act 39 = .ok (.iload_n 2, 1) := by decide +kernel
theorem dX8_act_40 : decode cX8_act 40 = .ok (.iload_n 3, 1) := by decide +kernel
theorem dX8_act_41 : decode cX8_act 41 = .ok (.invokevirtual 244, 3) := by decide +kernel
theorem dX8_act_44 : decode cX8_act 44 = .ok (.ireturn, 1) := by decide +kernel
theorem dX8_trace_0 : decode cX8_trace 0 = .ok (.iload_n 1, 1) := by decide +kernel
theorem dX8_trace_1 : decode cX8_trace 1 = .ok (.ifCond .lt 20, 3) := by decide +kernel
theorem dX8_trace_4 : decode cX8_trace 4 = .ok (.iload_n 1, 1) := by decide +kernel
theorem dX8_trace_5 : decode cX8_trace 5 = .ok (.aload_n 0, 1) := by decide +kernel
theorem dX8_trace_6 : decode cX8_trace 6 = .ok (.getfield 42, 3) := by decide +kernel
theorem dX8_trace_9 : decode cX8_trace 9 = .ok (.getfield 241, 3) := by decide +kernel
theorem dX8_trace_12 : decode cX8_trace 12 = .ok (.if_icmp .ge 9, 3) := by decide +kernel
theorem dX8_trace_15 : decode cX8_trace 15 = .ok (.iload_n 1, 1) := by decide +kernel
theorem dX8_trace_16 : decode cX8_trace 16 = .ok (.bipush 24, 2) := by decide +kernel
theorem dX8_trace_18 : decode cX8_trace 18 = .ok (.if_icmp .lt 7, 3) := by decide +kernel
theorem dX8_trace_21 : decode cX8_trace 21 = .ok (.iconst (-1), 1) := by decide +kernel
theorem dX8_trace_22 : decode cX8_trace 22 = .ok (.goto 12, 3) := by decide +kernel
theorem dX8_trace_25 : decode cX8_trace 25 = .ok (.aload_n 0, 1) := by decide +kernel
theorem dX8_trace_26 : decode cX8_trace 26 = .ok (.getfield 42, 3) := by decide +kernel
theorem dX8_trace_29 : decode cX8_trace 29 = .ok (.getfield 247, 3) := by decide +kernel
theorem dX8_trace_32 : decode cX8_trace 32 = .ok (.iload_n 1, 1) := by decide +kernel
theorem dX8_trace_33 : decode cX8_trace 33 = .ok (.iaload, 1) := by decide +kernel
theorem dX8_trace_34 : decode cX8_trace 34 = .ok (.ireturn, 1) := by decide +kernel
theorem dX8_keep_0 : decode cX8_keep 0 = .ok (.iload_n 1, 1) := by decide +kernel
theorem dX8_keep_1 : decode cX8_keep 1 = .ok (.invokestatic 78, 3) := by decide +kernel
theorem dX8_keep_4 : decode cX8_keep 4 = .ok (.ifCond .ne 19, 3) := by decide +kernel
theorem dX8_keep_7 : decode cX8_keep 7 = .ok (.iload_n 2, 1) := by decide +kernel
theorem dX8_keep_8 : decode cX8_keep 8 = .ok (.iconst (-1), 1) := by decide +kernel
theorem dX8_keep_9 : decode cX8_keep 9 = .ok (.if_icmp .lt 14, 3) := by decide +kernel
theorem dX8_keep_12 : decode cX8_keep 12 = .ok (.iload_n 2, 1) := by decide +kernel
theorem dX8_keep_13 : decode cX8_keep 13 = .ok (.aload_n 0, 1) := by decide +kernel
theorem dX8_keep_14 : decode cX8_keep 14 = .ok (.getfield 42, 3) := by decide +kernel
theorem dX8_keep_17 : decode cX8_keep 17 = .ok (.getfield 235, 3) := by decide +kernel
theorem dX8_keep_20 : decode cX8_keep 20 = .ok (.if_icmp .lt 5, 3) := by decide +kernel
theorem dX8_keep_23 : decode cX8_keep 23 = .ok (.iconst (-1), 1) := by decide +kernel
theorem dX8_keep_24 : decode cX8_keep 24 = .ok (.ireturn, 1) := by decide +kernel
theorem dX8_keep_25 : decode cX8_keep 25 = .ok (.aload_n 0, 1) := by decide +kernel
theorem dX8_keep_26 : decode cX8_keep 26 = .ok (.getfield 48, 3) := by decide +kernel
theorem dX8_keep_29 : decode cX8_keep 29 = .ok (.iload_n 1, 1) := by decide +kernel
theorem dX8_keep_30 : decode cX8_keep 30 = .ok (.aaload, 1) := by decide +kernel
theorem dX8_keep_31 : decode cX8_keep 31 = .ok (.iload_n 2, 1) := by decide +kernel
theorem dX8_keep_32 : decode cX8_keep 32 = .ok (.invokevirtual 250, 3) := by decide +kernel
theorem dX8_keep_35 : decode cX8_keep 35 = .ok (.iconst 1, 1) := by decide +kernel
theorem dX8_keep_36 : decode cX8_keep 36 = .ok (.ireturn, 1) := by decide +kernel
theorem dX8_row_0 : decode cX8_row 0 = .ok (.iload_n 1, 1) := by decide +kernel
theorem dX8_row_1 : decode cX8_row 1 = .ok (.invokestatic 78, 3) := by decide +kernel
theorem dX8_row_4 : decode cX8_row 4 = .ok (.ifCond .ne 18, 3) := by decide +kernel
theorem dX8_row_7 : decode cX8_row 7 = .ok (.iload_n 2, 1) := by decide +kernel
theorem dX8_row_8 : decode cX8_row 8 = .ok (.ifCond .lt 14, 3) := by decide +kernel
theorem dX8_row_11 : decode cX8_row 11 = .ok (.iload_n 2, 1) := by decide +kernel
theorem dX8_row_12 : decode cX8_row 12 = .ok (.iconst 4, 1) := by decide +kernel
theorem dX8_row_13 : decode cX8_row 13 = .ok (.if_icmp .gt 9, 3) := by decide +kernel
theorem dX8_row_16 : decode cX8_row 16 = .ok (.iload_n 3, 1) := by decide +kernel
theorem dX8_row_17 : decode cX8_row 17 = .ok (.bipush 60, 2) := by decide +kernel
theorem dX8_row_19 : decode cX8_row 19 = .ok (.if_icmp .le 5, 3) := by decide +kernel
theorem dX8_row_22 : decode cX8_row 22 = .ok (.iconst (-1), 1) := by decide +kernel
theorem dX8_row_23 : decode cX8_row 23 = .ok (.ireturn, 1) := by decide +kernel
theorem dX8_row_24 : decode cX8_row 24 = .ok (.iload_n 3, 1) := by decide +kernel
theorem dX8_row_25 : decode cX8_row 25 = .ok (.ifCond .ge 6, 3) := by decide +kernel
theorem dX8_row_28 : decode cX8_row 28 = .ok (.bipush (-14), 2) := by decide +kernel
theorem dX8_row_30 : decode cX8_row 30 = .ok (.ireturn, 1) := by decide +kernel
theorem dX8_row_31 : decode cX8_row 31 = .ok (.aload_n 0, 1) := by decide +kernel
theorem dX8_row_32 : decode cX8_row 32 = .ok (.getfield 48, 3) := by decide +kernel
theorem dX8_row_35 : decode cX8_row 35 = .ok (.iload_n 1, 1) := by decide +kernel
theorem dX8_row_36 : decode cX8_row 36 = .ok (.aaload, 1) := by decide +kernel
theorem dX8_row_37 : decode cX8_row 37 = .ok (.iload_n 2, 1) := by decide +kernel
theorem dX8_row_38 : decode cX8_row 38 = .ok (.iload_n 3, 1) := by decide +kernel
theorem dX8_row_39 : decode cX8_row 39 = .ok (.invokevirtual 254, 3) := by decide +kernel
theorem dX8_row_42 : decode cX8_row 42 = .ok (.iconst 1, 1) := by decide +kernel
theorem dX8_row_43 : decode cX8_row 43 = .ok (.ireturn, 1) := by decide +kernel
theorem dX8_put_0 : decode cX8_put 0 = .ok (.iload_n 1, 1) := by decide +kernel
theorem dX8_put_1 : decode cX8_put 1 = .ok (.invokestatic 78, 3) := by decide +kernel
theorem dX8_put_4 : decode cX8_put 4 = .ok (.ifCond .eq 5, 3) := by decide +kernel
theorem dX8_put_7 : decode cX8_put 7 = .ok (.iconst (-1), 1) := by decide +kernel
theorem dX8_put_8 : decode cX8_put 8 = .ok (.ireturn, 1) := by decide +kernel
theorem dX8_put_9 : decode cX8_put 9 = .ok (.aload_n 0, 1) := by decide +kernel
theorem dX8_put_10 : decode cX8_put 10 = .ok (.getfield 48, 3) := by decide +kernel
theorem dX8_put_13 : decode cX8_put 13 = .ok (.iload_n 1, 1) := by decide +kernel
theorem dX8_put_14 : decode cX8_put 14 = .ok (.aaload, 1) := by decide +kernel
theorem dX8_put_15 : decode cX8_put 15 = .ok (.iload_n 2, 1) := by decide +kernel
theorem dX8_put_16 : decode cX8_put 16 = .ok (.invokevirtual 258, 3) := by decide +kernel
theorem dX8_put_19 : decode cX8_put 19 = .ok (.istore 5, 2) := by decide +kernel
theorem dX8_put_21 : decode cX8_put 21 = .ok (.iload 5, 2) := by decide +kernel
theorem dX8_put_23 : decode cX8_put 23 = .ok (.ifCond .eq 6, 3) := by decide +kernel
theorem dX8_put_26 : decode cX8_put 26 = .ok (.iload 5, 2) := by decide +kernel
theorem dX8_put_28 : decode cX8_put 28 = .ok (.ireturn, 1) := by decide +kernel
theorem dX8_put_29 : decode cX8_put 29 = .ok (.aload_n 0, 1) := by decide +kernel
theorem dX8_put_30 : decode cX8_put 30 = .ok (.getfield 48, 3) := by decide +kernel
theorem dX8_put_33 : decode cX8_put 33 = .ok (.iload_n 1, 1) := by decide +kernel
theorem dX8_put_34 : decode cX8_put 34 = .ok (.aaload, 1) := by decide +kernel
theorem dX8_put_35 : decode cX8_put 35 = .ok (.iload_n 2, 1) := by decide +kernel
theorem dX8_put_36 : decode cX8_put 36 = .ok (.lload_n 3, 1) := by decide +kernel
theorem dX8_put_37 : decode cX8_put 37 = .ok (.invokevirtual 261, 3) := by decide +kernel
theorem dX8_put_40 : decode cX8_put 40 = .ok (.iconst 1, 1) := by decide +kernel
theorem dX8_put_41 : decode cX8_put 41 = .ok (.ireturn, 1) := by decide +kernel
theorem dX8_element_0 : decode cX8_element 0 = .ok (.iload_n 1, 1) := by decide +kernel
theorem dX8_element_1 : decode cX8_element 1 = .ok (.invokestatic 78, 3) := by decide +kernel
theorem dX8_element_4 : decode cX8_element 4 = .ok (.ifCond .ne 16, 3) := by decide +kernel
theorem dX8_element_7 : decode cX8_element 7 = .ok (.aload_n 0, 1) := by decide +kernel
theorem dX8_element_8 : decode cX8_element 8 = .ok (.getfield 48, 3) := by decide +kernel
theorem dX8_element_11 : decode cX8_element 11 = .ok (.iload_n 1, 1) := by decide +kernel
theorem dX8_element_12 : decode cX8_element 12 = .ok (.aaload, 1) := by decide +kernel
theorem dX8_element_13 : decode cX8_element 13 = .ok (.iload_n 2, 1) := by decide +kernel
theorem dX8_element_14 : decode cX8_element 14 = .ok (.invokevirtual 258, 3) := by decide +kernel
theorem dX8_element_17 : decode cX8_element 17 = .ok (.ifCond .eq 7, 3) := by decide +kernel
theorem dX8_element_20 : decode cX8_element 20 = .ok (.ldc2_w 267, 3) := by decide +kernel
theorem dX8_element_23 : decode cX8_element 23 = .ok (.lreturn, 1) := by decide +kernel
theorem dX8_element_24 : decode cX8_element 24 = .ok (.aload_n 0, 1) := by decide +kernel
theorem dX8_element_25 : decode cX8_element 25 = .ok (.getfield 48, 3) := by decide +kernel
theorem dX8_element_28 : decode cX8_element 28 = .ok (.iload_n 1, 1) := by decide +kernel
theorem dX8_element_29 : decode cX8_element 29 = .ok (.aaload, 1) := by decide +kernel
theorem dX8_element_30 : decode cX8_element 30 = .ok (.getfield 269, 3) := by decide +kernel
theorem dX8_element_33 : decode cX8_element 33 = .ok (.iload_n 2, 1) := by decide +kernel
theorem dX8_element_34 : decode cX8_element 34 = .ok (.laload, 1) := by decide +kernel
theorem dX8_element_35 : decode cX8_element 35 = .ok (.lreturn, 1) := by decide +kernel
theorem dX8_shift_0 : decode cX8_shift 0 = .ok (.iload_n 1, 1) := by decide +kernel
theorem dX8_shift_1 : decode cX8_shift 1 = .ok (.invokestatic 78, 3) := by decide +kernel
theorem dX8_shift_4 : decode cX8_shift 4 = .ok (.ifCond .ne 10, 3) := by decide +kernel
theorem dX8_shift_7 : decode cX8_shift 7 = .ok (.iload_n 3, 1) := by decide +kernel
theorem dX8_shift_8 : decode cX8_shift 8 = .ok (.invokestatic 78, 3) := by decide +kernel
theorem dX8_shift_11 : decode cX8_shift 11 = .ok (.ifCond .eq 5, 3) := by decide +kernel
theorem dX8_shift_14 : decode cX8_shift 14 = .ok (.iconst (-1), 1) := by decide +kernel
theorem dX8_shift_15 : decode cX8_shift 15 = .ok (.ireturn, 1) := by decide +kernel
theorem dX8_shift_16 : decode cX8_shift 16 = .ok (.aload_n 0, 1) := by decide +kernel
theorem dX8_shift_17 : decode cX8_shift 17 = .ok (.getfield 48, 3) := by decide +kernel
theorem dX8_shift_20 : decode cX8_shift 20 = .ok (.iload_n 1, 1) := by decide +kernel
theorem dX8_shift_21 : decode cX8_shift 21 = .ok (.aaload, 1) := by decide +kernel
theorem dX8_shift_22 : decode cX8_shift 22 = .ok (.astore 6, 2) := by decide +kernel
theorem dX8_shift_24 : decode cX8_shift 24 = .ok (.aload_n 0, 1) := by decide +kernel
theorem dX8_shift_25 : decode cX8_shift 25 = .ok (.getfield 48, 3) := by decide +kernel
theorem dX8_shift_28 : decode cX8_shift 28 = .ok (.iload_n 3, 1) := by decide +kernel
theorem dX8_shift_29 : decode cX8_shift 29 = .ok (.aaload, 1) := by decide +kernel
theorem dX8_shift_30 : decode cX8_shift 30 = .ok (.astore 7, 2) := by decide +kernel
theorem dX8_shift_32 : decode cX8_shift 32 = .ok (.aload 6, 2) := by decide +kernel
theorem dX8_shift_34 : decode cX8_shift 34 = .ok (.getfield 82, 3) := by decide +kernel
theorem dX8_shift_37 : decode cX8_shift 37 = .ok (.bipush (-2), 2) := by decide +kernel
theorem dX8_shift_39 : decode cX8_shift 39 = .ok (.if_icmp .eq 13, 3) := by decide +kernel
theorem dX8_shift_42 : decode cX8_shift 42 = .ok (.aload 7, 2) := by decide +kernel
theorem dX8_shift_44 : decode cX8_shift 44 = .ok (.getfield 82, 3) := by decide +kernel
theorem dX8_shift_47 : decode cX8_shift 47 = .ok (.bipush (-2), 2) := by decide +kernel
theorem dX8_shift_49 : decode cX8_shift 49 = .ok (.if_icmp .ne 6, 3) := by decide +kernel
theorem dX8_shift_52 : decode cX8_shift 52 = .ok (.bipush (-11), 2) := by decide +kernel
theorem dX8_shift_54 : decode cX8_shift 54 = .ok (.ireturn, 1) := by decide +kernel
theorem dX8_shift_55 : decode cX8_shift 55 = .ok (.aload 6, 2) := by decide +kernel
theorem dX8_shift_57 : decode cX8_shift 57 = .ok (.getfield 82, 3) := by decide +kernel
theorem dX8_shift_60 : decode cX8_shift 60 = .ok (.iconst (-1), 1) := by decide +kernel
theorem dX8_shift_61 : decode cX8_shift 61 = .ok (.if_icmp .eq 16, 3) := by decide +kernel
theorem dX8_shift_64 : decode cX8_shift 64 = .ok (.aload 6, 2) := by decide +kernel
theorem dX8_shift_66 : decode cX8_shift 66 = .ok (.getfield 82, 3) := by decide +kernel
theorem dX8_shift_69 : decode cX8_shift 69 = .ok (.aload 7, 2) := by decide +kernel
theorem dX8_shift_71 : decode cX8_shift 71 = .ok (.getfield 82, 3) := by decide +kernel
theorem dX8_shift_74 : decode cX8_shift 74 = .ok (.if_icmp .eq 6, 3) := by decide +kernel
theorem dX8_shift_77 : decode cX8_shift 77 = .ok (.bipush (-12), 2) := by decide +kernel
theorem dX8_shift_79 : decode cX8_shift 79 = .ok (.ireturn, 1) := by decide +kernel
theorem dX8_shift_80 : decode cX8_shift 80 = .ok (.aload 6, 2) := by decide +kernel
theorem dX8_shift_82 : decode cX8_shift 82 = .ok (.iload_n 2, 1) := by decide +kernel
theorem dX8_shift_83 : decode cX8_shift 83 = .ok (.iload 5, 2) := by decide +kernel
theorem dX8_shift_85 : decode cX8_shift 85 = .ok (.invokevirtual 273, 3) := by decide +kernel
theorem dX8_shift_88 : decode cX8_shift 88 = .ok (.ifCond .eq 15, 3) := by decide +kernel
theorem dX8_shift_91 : decode cX8_shift 91 = .ok (.aload 7, 2) := by decide +kernel
theorem dX8_shift_93 : decode cX8_shift 93 = .ok (.iload 4, 2) := by decide +kernel
theorem dX8_shift_95 : decode cX8_shift 95 = .ok (.iload 5, 2) := by decide +kernel
theorem dX8_shift_97 : decode cX8_shift 97 = .ok (.invokevirtual 273, 3) := by decide +kernel
theorem dX8_shift_100 : decode cX8_shift 100 = .ok (.ifCond .ne 6, 3) := by decide +kernel
theorem dX8_shift_103 : decode cX8_shift 103 = .ok (.bipush (-13), 2) := by decide +kernel
theorem dX8_shift_105 : decode cX8_shift 105 = .ok (.ireturn, 1) := by decide +kernel
theorem dX8_shift_106 : decode cX8_shift 106 = .ok (.aload 6, 2) := by decide +kernel
theorem dX8_shift_108 : decode cX8_shift 108 = .ok (.getfield 269, 3) := by decide +kernel
theorem dX8_shift_111 : decode cX8_shift 111 = .ok (.iload_n 2, 1) := by decide +kernel
theorem dX8_shift_112 : decode cX8_shift 112 = .ok (.aload 7, 2) := by decide +kernel
theorem dX8_shift_114 : decode cX8_shift 114 = .ok (.getfield 269, 3) := by decide +kernel
theorem dX8_shift_117 : decode cX8_shift 117 = .ok (.iload 4, 2) := by decide +kernel
theorem dX8_shift_119 : decode cX8_shift 119 = .ok (.iload 5, 2) := by decide +kernel
theorem dX8_shift_121 : decode cX8_shift 121 = .ok (.invokestatic 277, 3) := by decide +kernel
theorem dX8_shift_124 : decode cX8_shift 124 = .ok (.iload 5, 2) := by decide +kernel
theorem dX8_shift_126 : decode cX8_shift 126 = .ok (.ireturn, 1) := by decide +kernel
theorem dX8_taken_0 : decode cX8_taken 0 = .ok (.iload_n 1, 1) := by decide +kernel
theorem dX8_taken_1 : decode cX8_taken 1 = .ok (.invokestatic 78, 3) := by decide +kernel
theorem dX8_taken_4 : decode cX8_taken 4 = .ok (.ifCond .ne 13, 3) := by decide +kernel
theorem dX8_taken_7 : decode cX8_taken 7 = .ok (.iload_n 2, 1) := by decide +kernel
theorem dX8_taken_8 : decode cX8_taken 8 = .ok (.ifCond .lt 9, 3) := by decide +kernel
theorem dX8_taken_11 : decode cX8_taken 11 = .ok (.iload_n 2, 1) := by decide +kernel
theorem dX8_taken_12 : decode cX8_taken 12 = .ok (.bipush 8, 2) := by decide +kernel
theorem dX8_taken_14 : decode cX8_taken 14 = .ok (.if_icmp .lt 5, 3) := by decide +kernel
theorem dX8_taken_17 : decode cX8_taken 17 = .ok (.iconst (-1), 1) := by decide +kernel
theorem dX8_taken_18 : decode cX8_taken 18 = .ok (.ireturn, 1) := by decide +kernel
theorem dX8_taken_19 : decode cX8_taken 19 = .ok (.aload_n 0, 1) := by decide +kernel
theorem dX8_taken_20 : decode cX8_taken 20 = .ok (.getfield 48, 3) := by decide +kernel
theorem dX8_taken_23 : decode cX8_taken 23 = .ok (.iload_n 1, 1) := by decide +kernel
theorem dX8_taken_24 : decode cX8_taken 24 = .ok (.aaload, 1) := by decide +kernel
theorem dX8_taken_25 : decode cX8_taken 25 = .ok (.astore_n 3, 1) := by decide +kernel
theorem dX8_taken_26 : decode cX8_taken 26 = .ok (.aload_n 3, 1) := by decide +kernel
theorem dX8_taken_27 : decode cX8_taken 27 = .ok (.getfield 82, 3) := by decide +kernel
theorem dX8_taken_30 : decode cX8_taken 30 = .ok (.bipush (-2), 2) := by decide +kernel
theorem dX8_taken_32 : decode cX8_taken 32 = .ok (.if_icmp .ne 6, 3) := by decide +kernel
theorem dX8_taken_35 : decode cX8_taken 35 = .ok (.bipush (-11), 2) := by decide +kernel
theorem dX8_taken_37 : decode cX8_taken 37 = .ok (.ireturn, 1) := by decide +kernel
theorem dX8_taken_38 : decode cX8_taken 38 = .ok (.aload_n 3, 1) := by decide +kernel
theorem dX8_taken_39 : decode cX8_taken 39 = .ok (.getfield 82, 3) := by decide +kernel
theorem dX8_taken_42 : decode cX8_taken 42 = .ok (.iconst (-1), 1) := by decide +kernel
theorem dX8_taken_43 : decode cX8_taken 43 = .ok (.if_icmp .eq 6, 3) := by decide +kernel
theorem dX8_taken_46 : decode cX8_taken 46 = .ok (.bipush (-12), 2) := by decide +kernel
theorem dX8_taken_48 : decode cX8_taken 48 = .ok (.ireturn, 1) := by decide +kernel
theorem dX8_taken_49 : decode cX8_taken 49 = .ok (.aload_n 0, 1) := by decide +kernel
theorem dX8_taken_50 : decode cX8_taken 50 = .ok (.getfield 42, 3) := by decide +kernel
theorem dX8_taken_53 : decode cX8_taken 53 = .ok (.aload_n 3, 1) := by decide +kernel
theorem dX8_taken_54 : decode cX8_taken 54 = .ok (.getfield 283, 3) := by decide +kernel
theorem dX8_taken_57 : decode cX8_taken 57 = .ok (.invokevirtual 286, 3) := by decide +kernel
theorem dX8_taken_60 : decode cX8_taken 60 = .ok (.istore 4, 2) := by decide +kernel
theorem dX8_taken_62 : decode cX8_taken 62 = .ok (.iload 4, 2) := by decide +kernel
theorem dX8_taken_64 : decode cX8_taken 64 = .ok (.iload_n 2, 1) := by decide +kernel
theorem dX8_taken_65 : decode cX8_taken 65 = .ok (.invokestatic 289, 3) := by decide +kernel
theorem dX8_taken_68 : decode cX8_taken 68 = .ok (.ifCond .eq 8, 3) := by decide +kernel
theorem dX8_taken_71 : decode cX8_taken 71 = .ok (.iload 4, 2) := by decide +kernel
theorem dX8_taken_73 : decode cX8_taken 73 = .ok (.goto 5, 3) := by decide +kernel
theorem dX8_taken_76 : decode cX8_taken 76 = .ok (.bipush (-12), 2) := by decide +kernel
theorem dX8_taken_78 : decode cX8_taken 78 = .ok (.ireturn, 1) := by decide +kernel
theorem dX8_count_0 : decode cX8_count 0 = .ok (.iload_n 1, 1) := by decide +kernel
theorem dX8_count_1 : decode cX8_count 1 = .ok (.tableswitch 102 0 6 #[43, 51, 59, 67, 78, 86, 94], 43) := by decide +kernel
theorem dX8_count_44 : decode cX8_count 44 = .ok (.aload_n 0, 1) := by decide +kernel
theorem dX8_count_45 : decode cX8_count 45 = .ok (.getfield 10, 3) := by decide +kernel
theorem dX8_count_48 : decode cX8_count 48 = .ok (.getfield 53, 3) := by decide +kernel
theorem dX8_count_51 : decode cX8_count 51 = .ok (.ireturn, 1) := by decide +kernel
theorem dX8_count_52 : decode cX8_count 52 = .ok (.aload_n 0, 1) := by decide +kernel
theorem dX8_count_53 : decode cX8_count 53 = .ok (.getfield 10, 3) := by decide +kernel
theorem dX8_count_56 : decode cX8_count 56 = .ok (.getfield 61, 3) := by decide +kernel
theorem dX8_count_59 : decode cX8_count 59 = .ok (.ireturn, 1) := by decide +kernel
theorem dX8_count_60 : decode cX8_count 60 = .ok (.aload_n 0, 1) := by decide +kernel
theorem dX8_count_61 : decode cX8_count 61 = .ok (.getfield 10, 3) := by decide +kernel
theorem dX8_count_64 : decode cX8_count 64 = .ok (.getfield 71, 3) := by decide +kernel
theorem dX8_count_67 : decode cX8_count 67 = .ok (.ireturn, 1) := by decide +kernel
theorem dX8_count_68 : decode cX8_count 68 = .ok (.aload_n 0, 1) := by decide +kernel
theorem dX8_count_69 : decode cX8_count 69 = .ok (.getfield 10, 3) := by decide +kernel
theorem dX8_count_72 : decode cX8_count 72 = .ok (.getfield 89, 3) := by decide +kernel
theorem dX8_count_75 : decode cX8_count 75 = .ok (.getfield 292, 3) := by decide +kernel
theorem dX8_count_78 : decode cX8_count 78 = .ok (.ireturn, 1) := by decide +kernel
theorem dX8_count_79 : decode cX8_count 79 = .ok (.aload_n 0, 1) := by decide +kernel
theorem dX8_count_80 : decode cX8_count 80 = .ok (.getfield 19, 3) := by decide +kernel
theorem dX8_count_83 : decode cX8_count 83 = .ok (.getfield 214, 3) := by decide +kernel
theorem dX8_count_86 : decode cX8_count 86 = .ok (.ireturn, 1) := by decide +kernel
theorem dX8_count_87 : decode cX8_count 87 = .ok (.aload_n 0, 1) := by decide +kernel
theorem dX8_count_88 : decode cX8_count 88 = .ok (.getfield 42, 3) := by decide +kernel
theorem dX8_count_91 : decode cX8_count 91 = .ok (.getfield 235, 3) := by decide +kernel
theorem dX8_count_94 : decode cX8_count 94 = .ok (.ireturn, 1) := by decide +kernel
theorem dX8_count_95 : decode cX8_count 95 = .ok (.aload_n 0, 1) := by decide +kernel
theorem dX8_count_96 : decode cX8_count 96 = .ok (.getfield 42, 3) := by decide +kernel
theorem dX8_count_99 : decode cX8_count 99 = .ok (.getfield 241, 3) := by decide +kernel
theorem dX8_count_102 : decode cX8_count 102 = .ok (.ireturn, 1) := by decide +kernel
theorem dX8_count_103 : decode cX8_count 103 = .ok (.iconst (-1), 1) := by decide +kernel
theorem dX8_count_104 : decode cX8_count 104 = .ok (.ireturn, 1) := by decide +kernel
theorem dX8_isNoShelf_0 : decode cX8_isNoShelf 0 = .ok (.iload_n 0, 1) := by decide +kernel
theorem dX8_isNoShelf_1 : decode cX8_isNoShelf 1 = .ok (.ifCond .lt 9, 3) := by decide +kernel
theorem dX8_isNoShelf_4 : decode cX8_isNoShelf 4 = .ok (.iload_n 0, 1) := by decide +kernel
theorem dX8_isNoShelf_5 : decode cX8_isNoShelf 5 = .ok (.bipush 6, 2) := by decide +kernel
theorem dX8_isNoShelf_7 : decode cX8_isNoShelf 7 = .ok (.if_icmp .lt 7, 3) := by decide +kernel
theorem dX8_isNoShelf_10 : decode cX8_isNoShelf 10 = .ok (.iconst 1, 1) := by decide +kernel
theorem dX8_isNoShelf_11 : decode cX8_isNoShelf 11 = .ok (.goto 4, 3) := by decide +kernel
theorem dX8_isNoShelf_14 : decode cX8_isNoShelf 14 = .ok (.iconst 0, 1) := by decide +kernel
theorem dX8_isNoShelf_15 : decode cX8_isNoShelf 15 = .ok (.ireturn, 1) := by decide +kernel
theorem dX8_asTheyCame_0 : decode cX8_asTheyCame 0 = .ok (.iconst 0, 1) := by decide +kernel
theorem dX8_asTheyCame_1 : decode cX8_asTheyCame 1 = .ok (.istore_n 1, 1) := by decide +kernel
theorem dX8_asTheyCame_2 : decode cX8_asTheyCame 2 = .ok (.iload_n 1, 1) := by decide +kernel
theorem dX8_asTheyCame_3 : decode cX8_asTheyCame 3 = .ok (.aload_n 0, 1) := by decide +kernel
theorem dX8_asTheyCame_4 : decode cX8_asTheyCame 4 = .ok (.arraylength, 1) := by decide +kernel
theorem dX8_asTheyCame_5 : decode cX8_asTheyCame 5 = .ok (.if_icmp .ge 13, 3) := by decide +kernel
theorem dX8_asTheyCame_8 : decode cX8_asTheyCame 8 = .ok (.aload_n 0, 1) := by decide +kernel
theorem dX8_asTheyCame_9 : decode cX8_asTheyCame 9 = .ok (.iload_n 1, 1) := by decide +kernel
theorem dX8_asTheyCame_10 : decode cX8_asTheyCame 10 = .ok (.iload_n 1, 1) := by decide +kernel
theorem dX8_asTheyCame_11 : decode cX8_asTheyCame 11 = .ok (.iastore, 1) := by decide +kernel
theorem dX8_asTheyCame_12 : decode cX8_asTheyCame 12 = .ok (.iinc 1 1, 3) := by decide +kernel
theorem dX8_asTheyCame_15 : decode cX8_asTheyCame 15 = .ok (.goto (-13), 3) := by decide +kernel
theorem dX8_asTheyCame_18 : decode cX8_asTheyCame 18 = .ok (.return_, 1) := by decide +kernel
theorem dX9_within_0 : decode cX9_within 0 = .ok (.lload_n 0, 1) := by decide +kernel
theorem dX9_within_1 : decode cX9_within 1 = .ok (.lload_n 2, 1) := by decide +kernel
theorem dX9_within_2 : decode cX9_within 2 = .ok (.lcmp, 1) := by decide +kernel
theorem dX9_within_3 : decode cX9_within 3 = .ok (.ifCond .lt 14, 3) := by decide +kernel
theorem dX9_within_6 : decode cX9_within 6 = .ok (.lload_n 0, 1) := by decide +kernel
theorem dX9_within_7 : decode cX9_within 7 = .ok (.lload 4, 2) := by decide +kernel
theorem dX9_within_9 : decode cX9_within 9 = .ok (.lcmp, 1) := by decide +kernel
theorem dX9_within_10 : decode cX9_within 10 = .ok (.ifCond .gt 7, 3) := by decide +kernel
theorem dX9_within_13 : decode cX9_within 13 = .ok (.iconst 1, 1) := by decide +kernel
theorem dX9_within_14 : decode cX9_within 14 = .ok (.goto 4, 3) := by decide +kernel
theorem dX9_within_17 : decode cX9_within 17 = .ok (.iconst 0, 1) := by decide +kernel
theorem dX9_within_18 : decode cX9_within 18 = .ok (.ireturn, 1) := by decide +kernel
theorem dX9_size_0 : decode cX9_size 0 = .ok (.iload_n 0, 1) := by decide +kernel
theorem dX9_size_1 : decode cX9_size 1 = .ok (.ifCond .ge 8, 3) := by decide +kernel
theorem dX9_size_4 : decode cX9_size 4 = .ok (.iload_n 0, 1) := by decide +kernel
theorem dX9_size_5 : decode cX9_size 5 = .ok (.ineg, 1) := by decide +kernel
theorem dX9_size_6 : decode cX9_size 6 = .ok (.goto 4, 3) := by decide +kernel
theorem dX9_size_9 : decode cX9_size 9 = .ok (.iload_n 0, 1) := by decide +kernel
theorem dX9_size_10 : decode cX9_size 10 = .ok (.ireturn, 1) := by decide +kernel
theorem dX9_init_0 : decode cX9_init 0 = .ok (.aload_n 0, 1) := by decide +kernel
theorem dX9_init_1 : decode cX9_init 1 = .ok (.invokespecial 3, 3) := by decide +kernel
theorem dX9_init_4 : decode cX9_init 4 = .ok (.aload_n 0, 1) := by decide +kernel
theorem dX9_init_5 : decode cX9_init 5 = .ok (.bipush 42, 2) := by decide +kernel
theorem dX9_init_7 : decode cX9_init 7 = .ok (.newarray .int, 2) := by decide +kernel
theorem dX9_init_9 : decode cX9_init 9 = .ok (.putfield 9, 3) := by decide +kernel
theorem dX9_init_12 : decode cX9_init 12 = .ok (.aload_n 0, 1) := by decide +kernel
theorem dX9_init_13 : decode cX9_init 13 = .ok (.bipush 40, 2) := by decide +kernel
theorem dX9_init_15 : decode cX9_init 15 = .ok (.newarray .int, 2) := by decide +kernel
theorem dX9_init_17 : decode cX9_init 17 = .ok (.putfield 13, 3) := by decide +kernel
theorem dX9_init_20 : decode cX9_init 20 = .ok (.aload_n 0, 1) := by decide +kernel
theorem dX9_init_21 : decode cX9_init 21 = .ok (.bipush 40, 2) := by decide +kernel
theorem dX9_init_23 : decode cX9_init 23 = .ok (.newarray .int, 2) := by decide +kernel
theorem dX9_init_25 : decode cX9_init 25 = .ok (.putfield 16, 3) := by decide +kernel
theorem dX9_init_28 : decode cX9_init 28 = .ok (.aload_n 0, 1) := by decide +kernel
theorem dX9_init_29 : decode cX9_init 29 = .ok (.bipush 40, 2) := by decide +kernel
theorem dX9_init_31 : decode cX9_init 31 = .ok (.newarray .int, 2) := by decide +kernel
theorem dX9_init_33 : decode cX9_init 33 = .ok (.putfield 19, 3) := by decide +kernel
theorem dX9_init_36 : decode cX9_init 36 = .ok (.aload_n 0, 1) := by decide +kernel
theorem dX9_init_37 : decode cX9_init 37 = .ok (.bipush 10, 2) := by decide +kernel
theorem dX9_init_39 : decode cX9_init 39 = .ok (.newarray .int, 2) := by decide +kernel
theorem dX9_init_41 : decode cX9_init 41 = .ok (.putfield 22, 3) := by decide +kernel
theorem dX9_init_44 : decode cX9_init 44 = .ok (.aload_n 0, 1) := by decide +kernel
theorem dX9_init_45 : decode cX9_init 45 = .ok (.bipush 20, 2) := by decide +kernel
theorem dX9_init_47 : decode cX9_init 47 = .ok (.newarray .int, 2) := by decide +kernel
theorem dX9_init_49 : decode cX9_init 49 = .ok (.putfield 25, 3) := by decide +kernel
theorem dX9_init_52 : decode cX9_init 52 = .ok (.aload_n 0, 1) := by decide +kernel
theorem dX9_init_53 : decode cX9_init 53 = .ok (.bipush 20, 2) := by decide +kernel
theorem dX9_init_55 : decode cX9_init 55 = .ok (.newarray .int, 2) := by decide +kernel
theorem dX9_init_57 : decode cX9_init 57 = .ok (.putfield 28, 3) := by decide +kernel
theorem dX9_init_60 : decode cX9_init 60 = .ok (.aload_n 0, 1) := by decide +kernel
theorem dX9_init_61 : decode cX9_init 61 = .ok (.bipush 20, 2) := by decide +kernel
theorem dX9_init_63 : decode cX9_init 63 = .ok (.newarray .int, 2) := by decide +kernel
theorem dX9_init_65 : decode cX9_init 65 = .ok (.putfield 31, 3) := by decide +kernel
theorem dX9_init_68 : decode cX9_init 68 = .ok (.aload_n 0, 1) := by decide +kernel
theorem dX9_init_69 : decode cX9_init 69 = .ok (.bipush 120, 2) := by decide +kernel
theorem dX9_init_71 : decode cX9_init 71 = .ok (.newarray .int, 2) := by decide +kernel
theorem dX9_init_73 : decode cX9_init 73 = .ok (.putfield 34, 3) := by decide +kernel
theorem dX9_init_76 : decode cX9_init 76 = .ok (.aload_n 0, 1) := by decide +kernel
theorem dX9_init_77 : decode cX9_init 77 = .ok (.bipush 120, 2) := by decide +kernel
theorem dX9_init_79 : decode cX9_init 79 = .ok (.newarray .int, 2) := by decide +kernel
theorem dX9_init_81 : decode cX9_init 81 = .ok (.putfield 37, 3) := by decide +kernel
theorem dX9_init_84 : decode cX9_init 84 = .ok (.aload_n 0, 1) := by decide +kernel
theorem dX9_init_85 : decode cX9_init 85 = .ok (.bipush 8, 2) := by decide +kernel
theorem dX9_init_87 : decode cX9_init 87 = .ok (.newarray .int, 2) := by decide +kernel
theorem dX9_init_89 : decode cX9_init 89 = .ok (.putfield 40, 3) := by decide +kernel
theorem dX9_init_92 : decode cX9_init 92 = .ok (.aload_n 0, 1) := by decide +kernel
theorem dX9_init_93 : decode cX9_init 93 = .ok (.bipush 10, 2) := by decide +kernel
theorem dX9_init_95 : decode cX9_init 95 = .ok (.newarray .int, 2) := by decide +kernel
theorem dX9_init_97 : decode cX9_init 97 = .ok (.putfield 43, 3) := by decide +kernel
theorem dX9_init_100 : decode cX9_init 100 = .ok (.aload_n 0, 1) := by decide +kernel
theorem dX9_init_101 : decode cX9_init 101 = .ok (.bipush 10, 2) := by decide +kernel
theorem dX9_init_103 : decode cX9_init 103 = .ok (.newarray .int, 2) := by decide +kernel
theorem dX9_init_105 : decode cX9_init 105 = .ok (.putfield 46, 3) := by decide +kernel
theorem dX9_init_108 : decode cX9_init 108 = .ok (.aload_n 0, 1) := by decide +kernel
theorem dX9_init_109 : decode cX9_init 109 = .ok (.bipush 10, 2) := by decide +kernel
theorem dX9_init_111 : decode cX9_init 111 = .ok (.newarray .int, 2) := by decide +kernel
theorem dX9_init_113 : decode cX9_init 113 = .ok (.putfield 49, 3) := by decide +kernel
theorem dX9_init_116 : decode cX9_init 116 = .ok (.aload_n 0, 1) := by decide +kernel
theorem dX9_init_117 : decode cX9_init 117 = .ok (.bipush 20, 2) := by decide +kernel
theorem dX9_init_119 : decode cX9_init 119 = .ok (.newarray .int, 2) := by decide +kernel
theorem dX9_init_121 : decode cX9_init 121 = .ok (.putfield 52, 3) := by decide +kernel
theorem dX9_init_124 : decode cX9_init 124 = .ok (.aload_n 0, 1) := by decide +kernel
theorem dX9_init_125 : decode cX9_init 125 = .ok (.bipush 20, 2) := by decide +kernel
theorem dX9_init_127 : decode cX9_init 127 = .ok (.newarray .int, 2) := by decide +kernel
theorem dX9_init_129 : decode cX9_init 129 = .ok (.putfield 55, 3) := by decide +kernel
theorem dX9_init_132 : decode cX9_init 132 = .ok (.aload_n 0, 1) := by decide +kernel
theorem dX9_init_133 : decode cX9_init 133 = .ok (.bipush 6, 2) := by decide +kernel
theorem dX9_init_135 : decode cX9_init 135 = .ok (.newarray .int, 2) := by decide +kernel
theorem dX9_init_137 : decode cX9_init 137 = .ok (.putfield 58, 3) := by decide +kernel
theorem dX9_init_140 : decode cX9_init 140 = .ok (.aload_n 0, 1) := by decide +kernel
theorem dX9_init_141 : decode cX9_init 141 = .ok (.bipush 6, 2) := by decide +kernel
theorem dX9_init_143 : decode cX9_init 143 = .ok (.newarray .int, 2) := by decide +kernel
theorem dX9_init_145 : decode cX9_init 145 = .ok (.putfield 61, 3) := by decide +kernel
theorem dX9_init_148 : decode cX9_init 148 = .ok (.aload_n 0, 1) := by decide +kernel
theorem dX9_init_149 : decode cX9_init 149 = .ok (.sipush 200, 3) := by decide +kernel
theorem dX9_init_152 : decode cX9_init 152 = .ok (.newarray .int, 2) := by decide +kernel
theorem dX9_init_154 : decode cX9_init 154 = .ok (.putfield 64, 3) := by decide +kernel
theorem dX9_init_157 : decode cX9_init 157 = .ok (.aload_n 0, 1) := by decide +kernel
theorem dX9_init_158 : decode cX9_init 158 = .ok (.sipush 200, 3) := by decide +kernel
theorem dX9_init_161 : decode cX9_init 161 = .ok (.newarray .int, 2) := by decide +kernel
theorem dX9_init_163 : decode cX9_init 163 = .ok (.putfield 67, 3) := by decide +kernel
theorem dX9_init_166 : decode cX9_init 166 = .ok (.aload_n 0, 1) := by decide +kernel
theorem dX9_init_167 : decode cX9_init 167 = .ok (.sipush 200, 3) := by decide +kernel
theorem dX9_init_170 : decode cX9_init 170 = .ok (.newarray .int, 2) := by decide +kernel
theorem dX9_init_172 : decode cX9_init 172 = .ok (.putfield 70, 3) := by decide +kernel
theorem dX9_init_175 : decode cX9_init 175 = .ok (.aload_n 0, 1) := by decide +kernel
theorem dX9_init_176 : decode cX9_init 176 = .ok (.sipush 200, 3) := by decide +kernel
theorem dX9_init_179 : decode cX9_init 179 = .ok (.newarray .int, 2) := by decide +kernel
theorem dX9_init_181 : decode cX9_init 181 = .ok (.putfield 73, 3) := by decide +kernel
theorem dX9_init_184 : decode cX9_init 184 = .ok (.aload_n 0, 1) := by decide +kernel
theorem dX9_init_185 : decode cX9_init 185 = .ok (.sipush 200, 3) := by decide +kernel
theorem dX9_init_188 : decode cX9_init 188 = .ok (.newarray .int, 2) := by decide +kernel
theorem dX9_init_190 : decode cX9_init 190 = .ok (.putfield 76, 3) := by decide +kernel
theorem dX9_init_193 : decode cX9_init 193 = .ok (.aload_n 0, 1) := by decide +kernel
theorem dX9_init_194 : decode cX9_init 194 = .ok (.sipush 200, 3) := by decide +kernel
theorem dX9_init_197 : decode cX9_init 197 = .ok (.newarray .int, 2) := by decide +kernel
theorem dX9_init_199 : decode cX9_init 199 = .ok (.putfield 79, 3) := by decide +kernel
theorem dX9_init_202 : decode cX9_init 202 = .ok (.aload_n 0, 1) := by decide +kernel
theorem dX9_init_203 : decode cX9_init 203 = .ok (.sipush 200, 3) := by decide +kernel
theorem dX9_init_206 : decode cX9_init 206 = .ok (.newarray .int, 2) := by decide +kernel
theorem dX9_init_208 : decode cX9_init 208 = .ok (.putfield 82, 3) := by decide +kernel
theorem dX9_init_211 : decode cX9_init 211 = .ok (.aload_n 0, 1) := by decide +kernel
theorem dX9_init_212 : decode cX9_init 212 = .ok (.bipush 10, 2) := by decide +kernel
theorem dX9_init_214 : decode cX9_init 214 = .ok (.newarray .int, 2) := by decide +kernel
theorem dX9_init_216 : decode cX9_init 216 = .ok (.putfield 85, 3) := by decide +kernel
theorem dX9_init_219 : decode cX9_init 219 = .ok (.aload_n 0, 1) := by decide +kernel
theorem dX9_init_220 : decode cX9_init 220 = .ok (.sipush 200, 3) := by decide +kernel
theorem dX9_init_223 : decode cX9_init 223 = .ok (.newarray .int, 2) := by decide +kernel
theorem dX9_init_225 : decode cX9_init 225 = .ok (.putfield 88, 3) := by decide +kernel
theorem dX9_init_228 : decode cX9_init 228 = .ok (.aload_n 0, 1) := by decide +kernel
theorem dX9_init_229 : decode cX9_init 229 = .ok (.sipush 200, 3) := by decide +kernel
theorem dX9_init_232 : decode cX9_init 232 = .ok (.newarray .int, 2) := by decide +kernel
theorem dX9_init_234 : decode cX9_init 234 = .ok (.putfield 91, 3) := by decide +kernel
theorem dX9_init_237 : decode cX9_init 237 = .ok (.aload_n 0, 1) := by decide +kernel
theorem dX9_init_238 : decode cX9_init 238 = .ok (.sipush 200, 3) := by decide +kernel
theorem dX9_init_241 : decode cX9_init 241 = .ok (.newarray .int, 2) := by decide +kernel
theorem dX9_init_243 : decode cX9_init 243 = .ok (.putfield 94, 3) := by decide +kernel
theorem dX9_init_246 : decode cX9_init 246 = .ok (.aload_n 0, 1) := by decide +kernel
theorem dX9_init_247 : decode cX9_init 247 = .ok (.sipush 200, 3) := by decide +kernel
theorem dX9_init_250 : decode cX9_init 250 = .ok (.newarray .int, 2) := by decide +kernel
theorem dX9_init_252 : decode cX9_init 252 = .ok (.putfield 97, 3) := by decide +kernel
theorem dX9_init_255 : decode cX9_init 255 = .ok (.aload_n 0, 1) := by decide +kernel
theorem dX9_init_256 : decode cX9_init 256 = .ok (.sipush 200, 3) := by decide +kernel
theorem dX9_init_259 : decode cX9_init 259 = .ok (.newarray .int, 2) := by decide +kernel
theorem dX9_init_261 : decode cX9_init 261 = .ok (.putfield 100, 3) := by decide +kernel
theorem dX9_init_264 : decode cX9_init 264 = .ok (.aload_n 0, 1) := by decide +kernel
theorem dX9_init_265 : decode cX9_init 265 = .ok (.sipush 200, 3) := by decide +kernel
theorem dX9_init_268 : decode cX9_init 268 = .ok (.newarray .int, 2) := by decide +kernel
theorem dX9_init_270 : decode cX9_init 270 = .ok (.putfield 103, 3) := by decide +kernel
theorem dX9_init_273 : decode cX9_init 273 = .ok (.aload_n 0, 1) := by decide +kernel
theorem dX9_init_274 : decode cX9_init 274 = .ok (.sipush 200, 3) := by decide +kernel
theorem dX9_init_277 : decode cX9_init 277 = .ok (.newarray .int, 2) := by decide +kernel
theorem dX9_init_279 : decode cX9_init 279 = .ok (.putfield 106, 3) := by decide +kernel
theorem dX9_init_282 : decode cX9_init 282 = .ok (.aload_n 0, 1) := by decide +kernel
theorem dX9_init_283 : decode cX9_init 283 = .ok (.bipush 6, 2) := by decide +kernel
theorem dX9_init_285 : decode cX9_init 285 = .ok (.newarray .int, 2) := by decide +kernel
theorem dX9_init_287 : decode cX9_init 287 = .ok (.putfield 109, 3) := by decide +kernel
theorem dX9_init_290 : decode cX9_init 290 = .ok (.aload_n 0, 1) := by decide +kernel
theorem dX9_init_291 : decode cX9_init 291 = .ok (.bipush 6, 2) := by decide +kernel
theorem dX9_init_293 : decode cX9_init 293 = .ok (.newarray .int, 2) := by decide +kernel
theorem dX9_init_295 : decode cX9_init 295 = .ok (.putfield 112, 3) := by decide +kernel
theorem dX9_init_298 : decode cX9_init 298 = .ok (.aload_n 0, 1) := by decide +kernel
theorem dX9_init_299 : decode cX9_init 299 = .ok (.bipush 20, 2) := by decide +kernel
theorem dX9_init_301 : decode cX9_init 301 = .ok (.newarray .int, 2) := by decide +kernel
theorem dX9_init_303 : decode cX9_init 303 = .ok (.putfield 115, 3) := by decide +kernel
theorem dX9_init_306 : decode cX9_init 306 = .ok (.aload_n 0, 1) := by decide +kernel
theorem dX9_init_307 : decode cX9_init 307 = .ok (.bipush 20, 2) := by decide +kernel
theorem dX9_init_309 : decode cX9_init 309 = .ok (.newarray .int, 2) := by decide +kernel
theorem dX9_init_311 : decode cX9_init 311 = .ok (.putfield 118, 3) := by decide +kernel
theorem dX9_init_314 : decode cX9_init 314 = .ok (.aload_n 0, 1) := by decide +kernel
theorem dX9_init_315 : decode cX9_init 315 = .ok (.bipush 10, 2) := by decide +kernel
theorem dX9_init_317 : decode cX9_init 317 = .ok (.newarray .int, 2) := by decide +kernel
theorem dX9_init_319 : decode cX9_init 319 = .ok (.putfield 121, 3) := by decide +kernel
theorem dX9_init_322 : decode cX9_init 322 = .ok (.aload_n 0, 1) := by decide +kernel
theorem dX9_init_323 : decode cX9_init 323 = .ok (.bipush 50, 2) := by decide +kernel
theorem dX9_init_325 : decode cX9_init 325 = .ok (.newarray .int, 2) := by decide +kernel
theorem dX9_init_327 : decode cX9_init 327 = .ok (.putfield 124, 3) := by decide +kernel
theorem dX9_init_330 : decode cX9_init 330 = .ok (.aload_n 0, 1) := by decide +kernel
theorem dX9_init_331 : decode cX9_init 331 = .ok (.bipush 24, 2) := by decide +kernel
theorem dX9_init_333 : decode cX9_init 333 = .ok (.newarray .int, 2) := by decide +kernel
theorem dX9_init_335 : decode cX9_init 335 = .ok (.putfield 127, 3) := by decide +kernel
theorem dX9_init_338 : decode cX9_init 338 = .ok (.aload_n 0, 1) := by decide +kernel
theorem dX9_init_339 : decode cX9_init 339 = .ok (.bipush 6, 2) := by decide +kernel
theorem dX9_init_341 : decode cX9_init 341 = .ok (.newarray .int, 2) := by decide +kernel
theorem dX9_init_343 : decode cX9_init 343 = .ok (.putfield 130, 3) := by decide +kernel
theorem dX9_init_346 : decode cX9_init 346 = .ok (.aload_n 0, 1) := by decide +kernel
theorem dX9_init_347 : decode cX9_init 347 = .ok (.bipush 6, 2) := by decide +kernel
theorem dX9_init_349 : decode cX9_init 349 = .ok (.newarray .int, 2) := by decide +kernel
theorem dX9_init_351 : decode cX9_init 351 = .ok (.putfield 133, 3) := by decide +kernel
theorem dX9_init_354 : decode cX9_init 354 = .ok (.aload_n 0, 1) := by decide +kernel
theorem dX9_init_355 : decode cX9_init 355 = .ok (.sipush 360, 3) := by decide +kernel
theorem dX9_init_358 : decode cX9_init 358 = .ok (.newarray .long, 2) := by decide +kernel
theorem dX9_init_360 : decode cX9_init 360 = .ok (.putfield 136, 3) := by decide +kernel
theorem dX9_init_363 : decode cX9_init 363 = .ok (.aload_n 0, 1) := by decide +kernel
theorem dX9_init_364 : decode cX9_init 364 = .ok (.bipush 60, 2) := by decide +kernel
theorem dX9_init_366 : decode cX9_init 366 = .ok (.newarray .long, 2) := by decide +kernel
theorem dX9_init_368 : decode cX9_init 368 = .ok (.putfield 140, 3) := by decide +kernel
theorem dX9_init_371 : decode cX9_init 371 = .ok (.iconst 0, 1) := by decide +kernel
theorem dX9_init_372 : decode cX9_init 372 = .ok (.istore_n 1, 1) := by decide +kernel
theorem dX9_init_373 : decode cX9_init 373 = .ok (.iload_n 1, 1) := by decide +kernel
theorem dX9_init_374 : decode cX9_init 374 = .ok (.bipush 6, 2) := by decide +kernel
theorem dX9_init_376 : decode cX9_init 376 = .ok (.if_icmp .ge 16, 3) := by decide +kernel
theorem dX9_init_379 : decode cX9_init 379 = .ok (.aload_n 0, 1) := by decide +kernel
theorem dX9_init_380 : decode cX9_init 380 = .ok (.getfield 130, 3) := by decide +kernel
theorem dX9_init_383 : decode cX9_init 383 = .ok (.iload_n 1, 1) := by decide +kernel
theorem dX9_init_384 : decode cX9_init 384 = .ok (.iconst (-1), 1) := by decide +kernel
theorem dX9_init_385 : decode cX9_init 385 = .ok (.iastore, 1) := by decide +kernel
theorem dX9_init_386 : decode cX9_init 386 = .ok (.iinc 1 1, 3) := by decide +kernel
theorem dX9_init_389 : decode cX9_init 389 = .ok (.goto (-16), 3) := by decide +kernel
theorem dX9_init_392 : decode cX9_init 392 = .ok (.aload_n 0, 1) := by decide +kernel
theorem dX9_init_393 : decode cX9_init 393 = .ok (.iconst (-1), 1) := by decide +kernel
theorem dX9_init_394 : decode cX9_init 394 = .ok (.putfield 143, 3) := by decide +kernel
theorem dX9_init_397 : decode cX9_init 397 = .ok (.aload_n 0, 1) := by decide +kernel
theorem dX9_init_398 : decode cX9_init 398 = .ok (.iconst 3, 1) := by decide +kernel
theorem dX9_init_399 : decode cX9_init 399 = .ok (.putfield 147, 3) := by decide +kernel
theorem dX9_init_402 : decode cX9_init 402 = .ok (.aload_n 0, 1) := by decide +kernel
theorem dX9_init_403 : decode cX9_init 403 = .ok (.iconst (-1), 1) := by decide +kernel
theorem dX9_init_404 : decode cX9_init 404 = .ok (.putfield 150, 3) := by decide +kernel
theorem dX9_init_407 : decode cX9_init 407 = .ok (.return_, 1) := by decide +kernel
theorem dX9_becomes_0 : decode cX9_becomes 0 = .ok (.aload_n 0, 1) := by decide +kernel
theorem dX9_becomes_1 : decode cX9_becomes 1 = .ok (.getfield 9, 3) := by decide +kernel
theorem dX9_becomes_4 : decode cX9_becomes 4 = .ok (.iload_n 1, 1) := by decide +kernel
theorem dX9_becomes_5 : decode cX9_becomes 5 = .ok (.iaload, 1) := by decide +kernel
theorem dX9_becomes_6 : decode cX9_becomes 6 = .ok (.istore_n 3, 1) := by decide +kernel
theorem dX9_becomes_7 : decode cX9_becomes 7 = .ok (.iload_n 3, 1) := by decide +kernel
theorem dX9_becomes_8 : decode cX9_becomes 8 = .ok (.iload_n 2, 1) := by decide +kernel
theorem dX9_becomes_9 : decode cX9_becomes 9 = .ok (.if_icmp .ne 5, 3) := by decide +kernel
theorem dX9_becomes_12 : decode cX9_becomes 12 = .ok (.iload_n 3, 1) := by decide +kernel
theorem dX9_becomes_13 : decode cX9_becomes 13 = .ok (.ireturn, 1) := by decide +kernel
theorem dX9_becomes_14 : decode cX9_becomes 14 = .ok (.aload_n 0, 1) := by decide +kernel
theorem dX9_becomes_15 : decode cX9_becomes 15 = .ok (.getfield 153, 3) := by decide +kernel
theorem dX9_becomes_18 : decode cX9_becomes 18 = .ok (.bipush 40, 2) := by decide +kernel
theorem dX9_becomes_20 : decode cX9_becomes 20 = .ok (.if_icmp .ne 77, 3) := by decide +kernel
theorem dX9_becomes_23 : decode cX9_becomes 23 = .ok (.iconst 1, 1) := by decide +kernel
theorem dX9_becomes_24 : decode cX9_becomes 24 = .ok (.istore 4, 2) := by decide +kernel
theorem dX9_becomes_26 : decode cX9_becomes 26 = .ok (.iload 4, 2) := by decide +kernel
theorem dX9_becomes_28 : decode cX9_becomes 28 = .ok (.bipush 40, 2) := by decide +kernel
theorem dX9_becomes_30 : decode cX9_becomes 30 = .ok (.if_icmp .ge 57, 3) := by decide +kernel
theorem dX9_becomes_33 : decode cX9_becomes 33 = .ok (.aload_n 0, 1) := by decide +kernel
theorem dX9_becomes_34 : decode cX9_becomes 34 = .ok (.getfield 13, 3) := by decide +kernel
theorem dX9_becomes_37 : decode cX9_becomes 37 = .ok (.iload 4, 2) := by decide +kernel
theorem dX9_becomes_39 : decode cX9_becomes 39 = .ok (.iconst 1, 1) := by decide +kernel
theorem dX9_becomes_40 : decode cX9_becomes 40 = .ok (.isub, 1) := by decide +kernel
theorem dX9_becomes_41 : decode cX9_becomes 41 = .ok (.aload_n 0, 1) := by decide +kernel
theorem dX9_becomes_42 : decode cX9_becomes 42 = .ok (.getfield 13, 3) := by decide +kernel
theorem dX9_becomes_45 : decode cX9_becomes 45 = .ok (.iload 4, 2) := by decide +kernel
theorem dX9_becomes_47 : decode cX9_becomes 47 = .ok (.iaload, 1) := by decide +kernel
theorem dX9_becomes_48 : decode cX9_becomes 48 = .ok (.iastore, 1) := by decide +kernel
theorem dX9_becomes_49 : decode cX9_becomes 49 = .ok (.aload_n 0, 1) := by decide +kernel
theorem dX9_becomes_50 : decode cX9_becomes 50 = .ok (.getfield 16, 3) := by decide +kernel
theorem dX9_becomes_53 : decode cX9_becomes 53 = .ok (.iload 4, 2) := by decide +kernel
theorem dX9_becomes_55 : decode cX9_becomes 55 = .ok (.iconst 1, 1) := by decide +kernel
theorem dX9_becomes_56 : decode cX9_becomes 56 = .ok (.isub, 1) := by decide +kernel
theorem dX9_becomes_57 : decode cX9_becomes 57 = .ok (.aload_n 0, 1) := by decide +kernel
theorem dX9_becomes_58 : decode cX9_becomes 58 = .ok (.getfield 16, 3) := by decide +kernel
theorem dX9_becomes_61 : decode cX9_becomes 61 = .ok (.iload 4, 2) := by decide +kernel
theorem dX9_becomes_63 : decode cX9_becomes 63 = .ok (.iaload, 1) := by decide +kernel
theorem dX9_becomes_64 : decode cX9_becomes 64 = .ok (.iastore, 1) := by decide +kernel
theorem dX9_becomes_65 : decode cX9_becomes 65 = .ok (.aload_n 0, 1) := by decide +kernel
theorem dX9_becomes_66 : decode cX9_becomes 66 = .ok (.getfield 19, 3) := by decide +kernel
theorem dX9_becomes_69 : decode cX9_becomes 69 = .ok (.iload 4, 2) := by decide +kernel
theorem dX9_becomes_71 : decode cX9_becomes 71 = .ok (.iconst 1, 1) := by decide +kernel
theorem dX9_becomes_72 : decode cX9_becomes 72 = .ok (.isub, 1) := by decide +kernel
theorem dX9_becomes_73 : decode cX9_becomes 73 = .ok (.aload_n 0, 1) := by decide +kernel
theorem dX9_becomes_74 : decode cX9_becomes 74 = .ok (.getfield 19, 3) := by decide +kernel
theorem dX9_becomes_77 : decode cX9_becomes 77 = .ok (.iload 4, 2) := by decide +kernel
theorem dX9_becomes_79 : decode cX9_becomes 79 = .ok (.iaload, 1) := by decide +kernel
theorem dX9_becomes_80 : decode cX9_becomes 80 = .ok (.iastore, 1) := by decide +kernel
theorem dX9_becomes_81 : decode cX9_becomes 81 = .ok (.iinc 4 1, 3) := by decide +kernel
theorem dX9_becomes_84 : decode cX9_becomes 84 = .ok (.goto (-58), 3) := by decide +kernel
theorem dX9_becomes_87 : decode cX9_becomes 87 = .ok (.aload_n 0, 1) := by decide +kernel
theorem dX9_becomes_88 : decode cX9_becomes 88 = .ok (.dup, 1) := by decide +kernel
theorem dX9_becomes_89 : decode cX9_becomes 89 = .ok (.getfield 153, 3) := by decide +kernel
theorem dX9_becomes_92 : decode cX9_becomes 92 = .ok (.iconst 1, 1) := by decide +kernel
theorem dX9_becomes_93 : decode cX9_becomes 93 = .ok (.isub, 1) := by decide +kernel
theorem dX9_becomes_94 : decode cX9_becomes 94 = .ok (.putfield 153, 3) := by decide +kernel
theorem dX9_becomes_97 : decode cX9_becomes 97 = .ok (.aload_n 0, 1) := by decide +kernel
theorem dX9_becomes_98 : decode cX9_becomes 98 = .ok (.getfield 13, 3) := by decide +kernel
theorem dX9_becomes_101 : decode cX9_becomes 101 = .ok (.aload_n 0, 1) := by decide +kernel
theorem dX9_becomes_102 : decode cX9_becomes 102 = .ok (.getfield 153, 3) := by decide +kernel
theorem dX9_becomes_105 : decode cX9_becomes 105 = .ok (.iload_n 1, 1) := by decide +kernel
theorem dX9_becomes_106 : decode cX9_becomes 106 = .ok (.iastore, 1) := by decide +kernel
theorem dX9_becomes_107 : decode cX9_becomes 107 = .ok (.aload_n 0, 1) := by decide +kernel
theorem dX9_becomes_108 : decode cX9_becomes 108 = .ok (.getfield 16, 3) := by decide +kernel
theorem dX9_becomes_111 : decode cX9_becomes 111 = .ok (.aload_n 0, 1) := by decide +kernel
theorem dX9_becomes_112 : decode cX9_becomes 112 = .ok (.getfield 153, 3) := by decide +kernel
theorem dX9_becomes_115 : decode cX9_becomes 115 = .ok (.iload_n 3, 1) := by decide +kernel
theorem dX9_becomes_116 : decode cX9_becomes 116 = .ok (.iastore, 1) := by decide +kernel
theorem dX9_becomes_117 : decode cX9_becomes 117 = .ok (.aload_n 0, 1) := by decide +kernel
theorem dX9_becomes_118 : decode cX9_becomes 118 = .ok (.getfield 19, 3) := by decide +kernel
theorem dX9_becomes_121 : decode cX9_becomes 121 = .ok (.aload_n 0, 1) := by decide +kernel
theorem dX9_becomes_122 : decode cX9_becomes 122 = .ok (.getfield 153, 3) := by decide +kernel
theorem dX9_becomes_125 : decode cX9_becomes 125 = .ok (.iload_n 2, 1) := by decide +kernel
theorem dX9_becomes_126 : decode cX9_becomes 126 = .ok (.iastore, 1) := by decide +kernel
theorem dX9_becomes_127 : decode cX9_becomes 127 = .ok (.aload_n 0, 1) := by decide +kernel
theorem dX9_becomes_128 : decode cX9_becomes 128 = .ok (.dup, 1) := by decide +kernel
theorem dX9_becomes_129 : decode cX9_becomes 129 = .ok (.getfield 153, 3) := by decide +kernel
theorem dX9_becomes_132 : decode cX9_becomes 132 = .ok (.iconst 1, 1) := by decide +kernel
theorem dX9_becomes_133 : decode cX9_becomes 133 = .ok (.iadd, 1) := by decide +kernel
theorem dX9_becomes_134 : decode cX9_becomes 134 = .ok (.putfield 153, 3) := by decide +kernel
theorem dX9_becomes_137 : decode cX9_becomes 137 = .ok (.aload_n 0, 1) := by decide +kernel
theorem dX9_becomes_138 : decode cX9_becomes 138 = .ok (.aload_n 0, 1) := by decide +kernel
theorem dX9_becomes_139 : decode cX9_becomes 139 = .ok (.getfield 153, 3) := by decide +kernel
theorem dX9_becomes_142 : decode cX9_becomes 142 = .ok (.putfield 156, 3) := by decide +kernel
theorem dX9_becomes_145 : decode cX9_becomes 145 = .ok (.aload_n 0, 1) := by decide +kernel
theorem dX9_becomes_146 : decode cX9_becomes 146 = .ok (.getfield 9, 3) := by decide +kernel
theorem dX9_becomes_149 : decode cX9_becomes 149 = .ok (.iload_n 1, 1) := by decide +kernel
theorem dX9_becomes_150 : decode cX9_becomes 150 = .ok (.iload_n 2, 1) := by decide +kernel
theorem dX9_becomes_151 : decode cX9_becomes 151 = .ok (.iastore, 1) := by decide +kernel
theorem dX9_becomes_152 : decode cX9_becomes 152 = .ok (.iload_n 3, 1) := by decide +kernel
theorem dX9_becomes_153 : decode cX9_becomes 153 = .ok (.ireturn, 1) := by decide +kernel
theorem dX9_undo_0 : decode cX9_undo 0 = .ok (.aload_n 0, 1) := by decide +kernel
theorem dX9_undo_1 : decode cX9_undo 1 = .ok (.getfield 153, 3) := by decide +kernel
theorem dX9_undo_4 : decode cX9_undo 4 = .ok (.ifCond .ne 6, 3) := by decide +kernel
theorem dX9_undo_7 : decode cX9_undo 7 = .ok (.bipush (-5), 2) := by decide +kernel
theorem dX9_undo_9 : decode cX9_undo 9 = .ok (.ireturn, 1) := by decide +kernel
theorem dX9_undo_10 : decode cX9_undo 10 = .ok (.aload_n 0, 1) := by decide +kernel
theorem dX9_undo_11 : decode cX9_undo 11 = .ok (.dup, 1) := by decide +kernel
theorem dX9_undo_12 : decode cX9_undo 12 = .ok (.getfield 153, 3) := by decide +kernel
theorem dX9_undo_15 : decode cX9_undo 15 = .ok (.iconst 1, 1) := by decide +kernel
theorem dX9_undo_16 : decode cX9_undo 16 = .ok (.isub, 1) := by decide +kernel
theorem dX9_undo_17 : decode cX9_undo 17 = .ok (.putfield 153, 3) := by decide +kernel
theorem dX9_undo_20 : decode cX9_undo 20 = .ok (.aload_n 0, 1) := by decide +kernel
theorem dX9_undo_21 : decode cX9_undo 21 = .ok (.getfield 9, 3) := by decide +kernel
theorem dX9_undo_24 : decode cX9_undo 24 = .ok (.aload_n 0, 1) := by decide +kernel
theorem dX9_undo_25 : decode cX9_undo 25 = .ok (.getfield 13, 3) := by decide +kernel
theorem dX9_undo_28 : decode cX9_undo 28 = .ok (.aload_n 0, 1) := by decide +kernel
theorem dX9_undo_29 : decode cX9_undo 29 = .ok (.getfield 153, 3) := by decide +kernel
theorem dX9_undo_32 : decode cX9_undo 32 = .ok (.iaload, 1) := by decide +kernel
theorem dX9_undo_33 : decode cX9_undo 33 = .ok (.aload_n 0, 1) := by decide +kernel
theorem dX9_undo_34 : decode cX9_undo 34 = .ok (.getfield 16, 3) := by decide +kernel
theorem dX9_undo_37 : decode cX9_undo 37 = .ok (.aload_n 0, 1) := by decide +kernel
theorem dX9_undo_38 : decode cX9_undo 38 = .ok (.getfield 153, 3) := by decide +kernel
theorem dX9_undo_41 : decode cX9_undo 41 = .ok (.iaload, 1) := by decide +kernel
theorem dX9_undo_42 : decode cX9_undo 42 = .ok (.iastore, 1) := by decide +kernel
theorem dX9_undo_43 : decode cX9_undo 43 = .ok (.aload_n 0, 1) := by decide +kernel
theorem dX9_undo_44 : decode cX9_undo 44 = .ok (.getfield 153, 3) := by decide +kernel
theorem dX9_undo_47 : decode cX9_undo 47 = .ok (.ireturn, 1) := by decide +kernel
theorem dX9_redo_0 : decode cX9_redo 0 = .ok (.aload_n 0, 1) := by decide +kernel
theorem dX9_redo_1 : decode cX9_redo 1 = .ok (.getfield 153, 3) := by decide +kernel
theorem dX9_redo_4 : decode cX9_redo 4 = .ok (.aload_n 0, 1) := by decide +kernel
theorem dX9_redo_5 : decode cX9_redo 5 = .ok (.getfield 156, 3) := by decide +kernel
theorem dX9_redo_8 : decode cX9_redo 8 = .ok (.if_icmp .ne 6, 3) := by decide +kernel
theorem dX9_redo_11 : decode cX9_redo 11 = .ok (.bipush (-5), 2) := by decide +kernel
theorem dX9_redo_13 : decode cX9_redo 13 = .ok (.ireturn, 1) := by decide +kernel
theorem dX9_redo_14 : decode cX9_redo 14 = .ok (.aload_n 0, 1) := by decide +kernel
theorem dX9_redo_15 : decode cX9_redo 15 = .ok (.getfield 9, 3) := by decide +kernel
theorem dX9_redo_18 : decode cX9_redo 18 = .ok (.aload_n 0, 1) := by decide +kernel
theorem dX9_redo_19 : decode cX9_redo 19 = .ok (.getfield 13, 3) := by decide +kernel
theorem dX9_redo_22 : decode cX9_redo 22 = .ok (.aload_n 0, 1) := by decide +kernel
theorem dX9_redo_23 : decode cX9_redo 23 = .ok (.getfield 153, 3) := by decide +kernel
theorem dX9_redo_26 : decode cX9_redo 26 = .ok (.iaload, 1) := by decide +kernel
theorem dX9_redo_27 : decode cX9_redo 27 = .ok (.aload_n 0, 1) := by decide +kernel
theorem dX9_redo_28 : decode cX9_redo 28 = .ok (.getfield 19, 3) := by decide +kernel
theorem dX9_redo_31 : decode cX9_redo 31 = .ok (.aload_n 0, 1) := by decide +kernel
theorem dX9_redo_32 : decode cX9_redo 32 = .ok (.getfield 153, 3) := by decide +kernel
theorem dX9_redo_35 : decode cX9_redo 35 = .ok (.iaload, 1) := by decide +kernel
theorem dX9_redo_36 : decode cX9_redo 36 = .ok (.iastore, 1) := by decide +kernel
theorem dX9_redo_37 : decode cX9_redo 37 = .ok (.aload_n 0, 1) := by decide +kernel
theorem dX9_redo_38 : decode cX9_redo 38 = .ok (.dup, 1) := by decide +kernel
theorem dX9_redo_39 : decode cX9_redo 39 = .ok (.getfield 153, 3) := by decide +kernel
theorem dX9_redo_42 : decode cX9_redo 42 = .ok (.iconst 1, 1) := by decide +kernel
theorem dX9_redo_43 : decode cX9_redo 43 = .ok (.iadd, 1) := by decide +kernel
theorem dX9_redo_44 : decode cX9_redo 44 = .ok (.putfield 153, 3) := by decide +kernel
theorem dX9_redo_47 : decode cX9_redo 47 = .ok (.aload_n 0, 1) := by decide +kernel
theorem dX9_redo_48 : decode cX9_redo 48 = .ok (.getfield 156, 3) := by decide +kernel
theorem dX9_redo_51 : decode cX9_redo 51 = .ok (.aload_n 0, 1) := by decide +kernel
theorem dX9_redo_52 : decode cX9_redo 52 = .ok (.getfield 153, 3) := by decide +kernel
theorem dX9_redo_55 : decode cX9_redo 55 = .ok (.isub, 1) := by decide +kernel
theorem dX9_redo_56 : decode cX9_redo 56 = .ok (.ireturn, 1) := by decide +kernel
theorem dX9_isPerson_0 : decode cX9_isPerson 0 = .ok (.iload_n 1, 1) := by decide +kernel
theorem dX9_isPerson_1 : decode cX9_isPerson 1 = .ok (.i2l, 1) := by decide +kernel
theorem dX9_isPerson_2 : decode cX9_isPerson 2 = .ok (.lconst 0, 1) := by decide +kernel
theorem dX9_isPerson_3 : decode cX9_isPerson 3 = .ok (.aload_n 0, 1) := by decide +kernel
theorem dX9_isPerson_4 : decode cX9_isPerson 4 = .ok (.getfield 159, 3) := by decide +kernel
theorem dX9_isPerson_7 : decode cX9_isPerson 7 = .ok (.iconst 1, 1) := by decide +kernel
theorem dX9_isPerson_8 : decode cX9_isPerson 8 = .ok (.isub, 1) := by decide +kernel
theorem dX9_isPerson_9 : decode cX9_isPerson 9 = .ok (.i2l, 1) := by decide +kernel
theorem dX9_isPerson_10 : decode cX9_isPerson 10 = .ok (.invokestatic 162, 3) := by decide +kernel
theorem dX9_isPerson_13 : decode cX9_isPerson 13 = .ok (.ireturn, 1) := by decide +kernel
theorem dX9_isThing_0 : decode cX9_isThing 0 = .ok (.iload_n 1, 1) := by decide +kernel
theorem dX9_isThing_1 : decode cX9_isThing 1 = .ok (.i2l, 1) := by decide +kernel
theorem dX9_isThing_2 : decode cX9_isThing 2 = .ok (.lconst 0, 1) := by decide +kernel
theorem dX9_isThing_3 : decode cX9_isThing 3 = .ok (.aload_n 0, 1) := by decide +kernel
theorem dX9_isThing_4 : decode cX9_isThing 4 = .ok (.getfield 166, 3) := by decide +kernel
theorem dX9_isThing_7 : decode cX9_isThing 7 = .ok (.iconst 1, 1) := by decide +kernel
theorem dX9_isThing_8 : decode cX9_isThing 8 = .ok (.isub, 1) := by decide +kernel
theorem dX9_isThing_9 : decode cX9_isThing 9 = .ok (.i2l, 1) := by decide +kernel
theorem dX9_isThing_10 : decode cX9_isThing 10 = .ok (.invokestatic 162, 3) := by decide +kernel
theorem dX9_isThing_13 : decode cX9_isThing 13 = .ok (.ireturn, 1) := by decide +kernel
theorem dX9_isCard_0 : decode cX9_isCard 0 = .ok (.iload_n 1, 1) := by decide +kernel
theorem dX9_isCard_1 : decode cX9_isCard 1 = .ok (.i2l, 1) := by decide +kernel
theorem dX9_isCard_2 : decode cX9_isCard 2 = .ok (.lconst 0, 1) := by decide +kernel
theorem dX9_isCard_3 : decode cX9_isCard 3 = .ok (.aload_n 0, 1) := by decide +kernel
theorem dX9_isCard_4 : decode cX9_isCard 4 = .ok (.getfield 169, 3) := by decide +kernel
theorem dX9_isCard_7 : decode cX9_isCard 7 = .ok (.iconst 1, 1) := by decide +kernel
theorem dX9_isCard_8 : decode cX9_isCard 8 = .ok (.isub, 1) := by decide +kernel
theorem dX9_isCard_9 : decode cX9_isCard 9 = .ok (.i2l, 1) := by decide +kernel
theorem dX9_isCard_10 : decode cX9_isCard 10 = .ok (.invokestatic 162, 3) := by decide +kernel
theorem dX9_isCard_13 : decode cX9_isCard 13 = .ok (.ireturn, 1) := by decide +kernel
theorem dX9_isDigit1_0 : decode cX9_isDigit1 0 = .ok (.iload_n 0, 1) := by decide +kernel
theorem dX9_isDigit1_1 : decode cX9_isDigit1 1 = .ok (.i2l, 1) := by decide +kernel
theorem dX9_isDigit1_2 : decode cX9_isDigit1 2 = .ok (.lconst 0, 1) := by decide +kernel
theorem dX9_isDigit1_3 : decode cX9_isDigit1 3 = .ok (.ldc2_w 172, 3) := by decide +kernel
theorem dX9_isDigit1_6 : decode cX9_isDigit1 6 = .ok (.invokestatic 162, 3) := by decide +kernel
theorem dX9_isDigit1_9 : decode cX9_isDigit1 9 = .ok (.ireturn, 1) := by decide +kernel
theorem dX9_person_0 : decode cX9_person 0 = .ok (.iload_n 1, 1) := by decide +kernel
theorem dX9_person_1 : decode cX9_person 1 = .ok (.i2l, 1) := by decide +kernel
theorem dX9_person_2 : decode cX9_person 2 = .ok (.lconst 0, 1) := by decide +kernel
theorem dX9_person_3 : decode cX9_person 3 = .ok (.ldc2_w 174, 3) := by decide +kernel
theorem dX9_person_6 : decode cX9_person 6 = .ok (.invokestatic 162, 3) := by decide +kernel
theorem dX9_person_9 : decode cX9_person 9 = .ok (.ifCond .eq 15, 3) := by decide +kernel
theorem dX9_person_12 : decode cX9_person 12 = .ok (.iload_n 2, 1) := by decide +kernel
theorem dX9_person_13 : decode cX9_person 13 = .ok (.i2l, 1) := by decide +kernel
theorem dX9_person_14 : decode cX9_person 14 = .ok (.lconst 0, 1) := by decide +kernel
theorem dX9_person_15 : decode cX9_person 15 = .ok (.ldc2_w 176, 3) := by decide +kernel
theorem dX9_person_18 : decode cX9_person 18 = .ok (.invokestatic 162, 3) := by decide +kernel
theorem dX9_person_21 : decode cX9_person 21 = .ok (.ifCond .ne 5, 3) := by decide +kernel
theorem dX9_person_24 : decode cX9_person 24 = .ok (.iconst (-1), 1) := by decide +kernel
theorem dX9_person_25 : decode cX9_person 25 = .ok (.ireturn, 1) := by decide +kernel
theorem dX9_person_26 : decode cX9_person 26 = .ok (.aload_n 0, 1) := by decide +kernel
theorem dX9_person_27 : decode cX9_person 27 = .ok (.getfield 159, 3) := by decide +kernel
theorem dX9_person_30 : decode cX9_person 30 = .ok (.bipush 10, 2) := by decide +kernel
theorem dX9_person_32 : decode cX9_person 32 = .ok (.if_icmp .ne 6, 3) := by decide +kernel
theorem dX9_person_35 : decode cX9_person 35 = .ok (.bipush (-3), 2) := by decide +kernel
theorem dX9_person_37 : decode cX9_person 37 = .ok (.ireturn, 1) := by decide +kernel
theorem dX9_person_38 : decode cX9_person 38 = .ok (.aload_n 0, 1) := by decide +kernel
theorem dX9_person_39 : decode cX9_person 39 = .ok (.getfield 9, 3) := by decide +kernel
theorem dX9_person_42 : decode cX9_person 42 = .ok (.aload_n 0, 1) := by decide +kernel
theorem dX9_person_43 : decode cX9_person 43 = .ok (.getfield 159, 3) := by decide +kernel
theorem dX9_person_46 : decode cX9_person 46 = .ok (.iload_n 1, 1) := by decide +kernel
theorem dX9_person_47 : decode cX9_person 47 = .ok (.bipush 10, 2) := by decide +kernel
theorem dX9_person_49 : decode cX9_person 49 = .ok (.idiv, 1) := by decide +kernel
theorem dX9_person_50 : decode cX9_person 50 = .ok (.iastore, 1) := by decide +kernel
theorem dX9_person_51 : decode cX9_person 51 = .ok (.aload_n 0, 1) := by decide +kernel
theorem dX9_person_52 : decode cX9_person 52 = .ok (.getfield 9, 3) := by decide +kernel
theorem dX9_person_55 : decode cX9_person 55 = .ok (.bipush 10, 2) := by decide +kernel
theorem dX9_person_57 : decode cX9_person 57 = .ok (.aload_n 0, 1) := by decide +kernel
theorem dX9_person_58 : decode cX9_person 58 = .ok (.getfield 159, 3) := by decide +kernel
theorem dX9_person_61 : decode cX9_person 61 = .ok (.iadd, 1) := by decide +kernel
theorem dX9_person_62 : decode cX9_person 62 = .ok (.iload_n 1, 1) := by decide +kernel
theorem dX9_person_63 : decode cX9_person 63 = .ok (.bipush 10, 2) := by decide +kernel
theorem dX9_person_65 : decode cX9_person 65 = .ok (.irem, 1) := by decide +kernel
theorem dX9_person_66 : decode cX9_person 66 = .ok (.iastore, 1) := by decide +kernel
theorem dX9_person_67 : decode cX9_person 67 = .ok (.aload_n 0, 1) := by decide +kernel
theorem dX9_person_68 : decode cX9_person 68 = .ok (.getfield 22, 3) := by decide +kernel
theorem dX9_person_71 : decode cX9_person 71 = .ok (.aload_n 0, 1) := by decide +kernel
theorem dX9_person_72 : decode cX9_person 72 = .ok (.getfield 159, 3) := by decide +kernel
theorem dX9_person_75 : decode cX9_person 75 = .ok (.iload_n 2, 1) := by decide +kernel
theorem dX9_person_76 : decode cX9_person 76 = .ok (.bipush 100, 2) := by decide +kernel
theorem dX9_person_78 : decode cX9_person 78 = .ok (.idiv, 1) := by decide +kernel
theorem dX9_person_79 : decode cX9_person 79 = .ok (.iastore, 1) := by decide +kernel
theorem dX9_person_80 : decode cX9_person 80 = .ok (.aload_n 0, 1) := by decide +kernel
theorem dX9_person_81 : decode cX9_person 81 = .ok (.getfield 9, 3) := by decide +kernel
theorem dX9_person_84 : decode cX9_person 84 = .ok (.bipush 20, 2) := by decide +kernel
theorem dX9_person_86 : decode cX9_person 86 = .ok (.aload_n 0, 1) := by decide +kernel
theorem dX9_person_87 : decode cX9_person 87 = .ok (.getfield 159, 3) := by decide +kernel
theorem dX9_person_90 : decode cX9_person 90 = .ok (.iadd, 1) := by decide +kernel
theorem dX9_person_91 : decode cX9_person 91 = .ok (.iload_n 2, 1) := by decide +kernel
theorem dX9_person_92 : decode cX9_person 92 = .ok (.bipush 100, 2) := by decide +kernel
theorem dX9_person_94 : decode cX9_person 94 = .ok (.irem, 1) := by decide +kernel
theorem dX9_person_95 : decode cX9_person 95 = .ok (.iastore, 1) := by decide +kernel
theorem dX9_person_96 : decode cX9_person 96 = .ok (.aload_n 0, 1) := by decide +kernel
theorem dX9_person_97 : decode cX9_person 97 = .ok (.dup, 1) := by decide +kernel
theorem dX9_person_98 : decode cX9_person 98 = .ok (.getfield 159, 3) := by decide +kernel
theorem dX9_person_101 : decode cX9_person 101 = .ok (.iconst 1, 1) := by decide +kernel
theorem dX9_person_102 : decode cX9_person 102 = .ok (.iadd, 1) := by decide +kernel
theorem dX9_person_103 : decode cX9_person 103 = .ok (.putfield 159, 3) := by decide +kernel
theorem dX9_person_106 : decode cX9_person 106 = .ok (.aload_n 0, 1) := by decide +kernel
theorem dX9_person_107 : decode cX9_person 107 = .ok (.getfield 159, 3) := by decide +kernel
theorem dX9_person_110 : decode cX9_person 110 = .ok (.iconst 1, 1) := by decide +kernel
theorem dX9_person_111 : decode cX9_person 111 = .ok (.isub, 1) := by decide +kernel
theorem dX9_person_112 : decode cX9_person 112 = .ok (.ireturn, 1) := by decide +kernel
theorem dX9_isWorth_0 : decode cX9_isWorth 0 = .ok (.iload_n 0, 1) := by decide +kernel
theorem dX9_isWorth_1 : decode cX9_isWorth 1 = .ok (.i2l, 1) := by decide +kernel
theorem dX9_isWorth_2 : decode cX9_isWorth 2 = .ok (.ldc2_w 178, 3) := by decide +kernel
theorem dX9_isWorth_5 : decode cX9_isWorth 5 = .ok (.ldc2_w 174, 3) := by decide +kernel
theorem dX9_isWorth_8 : decode cX9_isWorth 8 = .ok (.invokestatic 162, 3) := by decide +kernel
theorem dX9_isWorth_11 : decode cX9_isWorth 11 = .ok (.ireturn, 1) := by decide +kernel
theorem dX9_thing_0 : decode cX9_thing 0 = .ok (.iload_n 1, 1) := by decide +kernel
theorem dX9_thing_1 : decode cX9_thing 1 = .ok (.invokestatic 180, 3) := by decide +kernel
theorem dX9_thing_4 : decode cX9_thing 4 = .ok (.ifCond .eq 10, 3) := by decide +kernel
theorem dX9_thing_7 : decode cX9_thing 7 = .ok (.iload_n 2, 1) := by decide +kernel
theorem dX9_thing_8 : decode cX9_thing 8 = .ok (.invokestatic 184, 3) := by decide +kernel
theorem dX9_thing_11 : decode cX9_thing 11 = .ok (.ifCond .ne 5, 3) := by decide +kernel
theorem dX9_thing_14 : decode cX9_thing 14 = .ok (.iconst (-1), 1) := by decide +kernel
theorem dX9_thing_15 : decode cX9_thing 15 = .ok (.ireturn, 1) := by decide +kernel
theorem dX9_thing_16 : decode cX9_thing 16 = .ok (.aload_n 0, 1) := by decide +kernel
theorem dX9_thing_17 : decode cX9_thing 17 = .ok (.getfield 166, 3) := by decide +kernel
theorem dX9_thing_20 : decode cX9_thing 20 = .ok (.bipush 6, 2) := by decide +kernel
theorem dX9_thing_22 : decode cX9_thing 22 = .ok (.if_icmp .ne 6, 3) := by decide +kernel
theorem dX9_thing_25 : decode cX9_thing 25 = .ok (.bipush (-3), 2) := by decide +kernel
theorem dX9_thing_27 : decode cX9_thing 27 = .ok (.ireturn, 1) := by decide +kernel
theorem dX9_thing_28 : decode cX9_thing 28 = .ok (.aload_n 0, 1) := by decide +kernel
theorem dX9_thing_29 : decode cX9_thing 29 = .ok (.getfield 9, 3) := by decide +kernel
theorem dX9_thing_32 : decode cX9_thing 32 = .ok (.bipush 30, 2) := by decide +kernel
theorem dX9_thing_34 : decode cX9_thing 34 = .ok (.aload_n 0, 1) := by decide +kernel
theorem dX9_thing_35 : decode cX9_thing 35 = .ok (.getfield 166, 3) := by decide +kernel
theorem dX9_thing_38 : decode cX9_thing 38 = .ok (.iadd, 1) := by decide +kernel
theorem dX9_thing_39 : decode cX9_thing 39 = .ok (.iload_n 1, 1) := by decide +kernel
theorem dX9_thing_40 : decode cX9_thing 40 = .ok (.iastore, 1) := by decide +kernel
theorem dX9_thing_41 : decode cX9_thing 41 = .ok (.aload_n 0, 1) := by decide +kernel
theorem dX9_thing_42 : decode cX9_thing 42 = .ok (.getfield 9, 3) := by decide +kernel
theorem dX9_thing_45 : decode cX9_thing 45 = .ok (.bipush 36, 2) := by decide +kernel
theorem dX9_thing_47 : decode cX9_thing 47 = .ok (.aload_n 0, 1) := by decide +kernel
theorem dX9_thing_48 : decode cX9_thing 48 = .ok (.getfield 166, 3) := by decide +kernel
theorem dX9_thing_51 : decode cX9_thing 51 = .ok (.iadd, 1) := by decide +kernel
theorem dX9_thing_52 : decode cX9_thing 52 = .ok (.iload_n 2, 1) := by decide +kernel
theorem dX9_thing_53 : decode cX9_thing 53 = .ok (.iastore, 1) := by decide +kernel
theorem dX9_thing_54 : decode cX9_thing 54 = .ok (.aload_n 0, 1) := by decide +kernel
theorem dX9_thing_55 : decode cX9_thing 55 = .ok (.dup, 1) := by decide +kernel
theorem dX9_thing_56 : decode cX9_thing 56 = .ok (.getfield 166, 3) := by decide +kernel
theorem dX9_thing_59 : decode cX9_thing 59 = .ok (.iconst 1, 1) := by decide +kernel
theorem dX9_thing_60 : decode cX9_thing 60 = .ok (.iadd, 1) := by decide +kernel
theorem dX9_thing_61 : decode cX9_thing 61 = .ok (.putfield 166, 3) := by decide +kernel
theorem dX9_thing_64 : decode cX9_thing 64 = .ok (.aload_n 0, 1) := by decide +kernel
theorem dX9_thing_65 : decode cX9_thing 65 = .ok (.getfield 166, 3) := by decide +kernel
theorem dX9_thing_68 : decode cX9_thing 68 = .ok (.iconst 1, 1) := by decide +kernel
theorem dX9_thing_69 : decode cX9_thing 69 = .ok (.isub, 1) := by decide +kernel
theorem dX9_thing_70 : decode cX9_thing 70 = .ok (.ireturn, 1) := by decide +kernel
theorem dX9_isOne_0 : decode cX9_isOne 0 = .ok (.lload_n 1, 1) := by decide +kernel
theorem dX9_isOne_1 : decode cX9_isOne 1 = .ok (.lconst 0, 1) := by decide +kernel
theorem dX9_isOne_2 : decode cX9_isOne 2 = .ok (.aload_n 0, 1) := by decide +kernel
theorem dX9_isOne_3 : decode cX9_isOne 3 = .ok (.getfield 166, 3) := by decide +kernel
theorem dX9_isOne_6 : decode cX9_isOne 6 = .ok (.iconst 1, 1) := by decide +kernel
theorem dX9_isOne_7 : decode cX9_isOne 7 = .ok (.isub, 1) := by decide +kernel
theorem dX9_isOne_8 : decode cX9_isOne 8 = .ok (.i2l, 1) := by decide +kernel
theorem dX9_isOne_9 : decode cX9_isOne 9 = .ok (.invokestatic 162, 3) := by decide +kernel
theorem dX9_isOne_12 : decode cX9_isOne 12 = .ok (.ifCond .eq 32, 3) := by decide +kernel
theorem dX9_isOne_15 : decode cX9_isOne 15 = .ok (.lload_n 3, 1) := by decide +kernel
theorem dX9_isOne_16 : decode cX9_isOne 16 = .ok (.ldc2_w 187, 3) := by decide +kernel
theorem dX9_isOne_19 : decode cX9_isOne 19 = .ok (.ldc2_w 172, 3) := by decide +kernel
theorem dX9_isOne_22 : decode cX9_isOne 22 = .ok (.invokestatic 162, 3) := by decide +kernel
theorem dX9_isOne_25 : decode cX9_isOne 25 = .ok (.ifCond .eq 19, 3) := by decide +kernel
theorem dX9_isOne_28 : decode cX9_isOne 28 = .ok (.lload 5, 2) := by decide +kernel
theorem dX9_isOne_30 : decode cX9_isOne 30 = .ok (.lconst 0, 1) := by decide +kernel
theorem dX9_isOne_31 : decode cX9_isOne 31 = .ok (.ldc2_w 189, 3) := by decide +kernel
theorem dX9_isOne_34 : decode cX9_isOne 34 = .ok (.invokestatic 162, 3) := by decide +kernel
theorem dX9_isOne_37 : decode cX9_isOne 37 = .ok (.ifCond .eq 7, 3) := by decide +kernel
theorem dX9_isOne_40 : decode cX9_isOne 40 = .ok (.iconst 1, 1) := by decide +kernel
theorem dX9_isOne_41 : decode cX9_isOne 41 = .ok (.goto 4, 3) := by decide +kernel
theorem dX9_isOne_44 : decode cX9_isOne 44 = .ok (.iconst 0, 1) := by decide +kernel
theorem dX9_isOne_45 : decode cX9_isOne 45 = .ok (.ireturn, 1) := by decide +kernel
theorem dX9_adds_0 : decode cX9_adds 0 = .ok (.aload_n 0, 1) := by decide +kernel
theorem dX9_adds_1 : decode cX9_adds 1 = .ok (.getfield 25, 3) := by decide +kernel
theorem dX9_adds_4 : decode cX9_adds 4 = .ok (.aload_n 0, 1) := by decide +kernel
theorem dX9_adds_5 : decode cX9_adds 5 = .ok (.getfield 169, 3) := by decide +kernel
theorem dX9_adds_8 : decode cX9_adds 8 = .ok (.iload_n 1, 1) := by decide +kernel
theorem dX9_adds_9 : decode cX9_adds 9 = .ok (.iastore, 1) := by decide +kernel
theorem dX9_adds_10 : decode cX9_adds 10 = .ok (.aload_n 0, 1) := by decide +kernel
theorem dX9_adds_11 : decode cX9_adds 11 = .ok (.getfield 28, 3) := by decide +kernel
theorem dX9_adds_14 : decode cX9_adds 14 = .ok (.aload_n 0, 1) := by decide +kernel
theorem dX9_adds_15 : decode cX9_adds 15 = .ok (.getfield 169, 3) := by decide +kernel
