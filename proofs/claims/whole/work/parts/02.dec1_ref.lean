theorem dX9_init_0 : decode cX9_init 0 = .ok (.aload_n 0, 1) := by decide +kernel
theorem dX9_init_1 : decode cX9_init 1 = .ok (.invokespecial 1, 3) := by decide +kernel
theorem dX9_init_4 : decode cX9_init 4 = .ok (.aload_n 0, 1) := by decide +kernel
theorem dX9_init_5 : decode cX9_init 5 = .ok (.bipush 55, 2) := by decide +kernel
theorem dX9_init_7 : decode cX9_init 7 = .ok (.newarray .int, 2) := by decide +kernel
theorem dX9_init_9 : decode cX9_init 9 = .ok (.putfield 7, 3) := by decide +kernel
theorem dX9_init_12 : decode cX9_init 12 = .ok (.aload_n 0, 1) := by decide +kernel
theorem dX9_init_13 : decode cX9_init 13 = .ok (.bipush 55, 2) := by decide +kernel
theorem dX9_init_15 : decode cX9_init 15 = .ok (.newarray .int, 2) := by decide +kernel
theorem dX9_init_17 : decode cX9_init 17 = .ok (.putfield 13, 3) := by decide +kernel
theorem dX9_init_20 : decode cX9_init 20 = .ok (.aload_n 0, 1) := by decide +kernel
theorem dX9_init_21 : decode cX9_init 21 = .ok (.bipush 55, 2) := by decide +kernel
theorem dX9_init_23 : decode cX9_init 23 = .ok (.newarray .int, 2) := by decide +kernel
theorem dX9_init_25 : decode cX9_init 25 = .ok (.putfield 16, 3) := by decide +kernel
theorem dX9_init_28 : decode cX9_init 28 = .ok (.aload_n 0, 1) := by decide +kernel
theorem dX9_init_29 : decode cX9_init 29 = .ok (.bipush 55, 2) := by decide +kernel
theorem dX9_init_31 : decode cX9_init 31 = .ok (.newarray .int, 2) := by decide +kernel
theorem dX9_init_33 : decode cX9_init 33 = .ok (.putfield 19, 3) := by decide +kernel
theorem dX9_init_36 : decode cX9_init 36 = .ok (.aload_n 0, 1) := by decide +kernel
theorem dX9_init_37 : decode cX9_init 37 = .ok (.bipush 7, 2) := by decide +kernel
theorem dX9_init_39 : decode cX9_init 39 = .ok (.newarray .int, 2) := by decide +kernel
theorem dX9_init_41 : decode cX9_init 41 = .ok (.putfield 22, 3) := by decide +kernel
theorem dX9_init_44 : decode cX9_init 44 = .ok (.aload_n 0, 1) := by decide +kernel
theorem dX9_init_45 : decode cX9_init 45 = .ok (.iconst 3, 1) := by decide +kernel
theorem dX9_init_46 : decode cX9_init 46 = .ok (.newarray .int, 2) := by decide +kernel
theorem dX9_init_48 : decode cX9_init 48 = .ok (.putfield 25, 3) := by decide +kernel
theorem dX9_init_51 : decode cX9_init 51 = .ok (.aload_n 0, 1) := by decide +kernel
theorem dX9_init_52 : decode cX9_init 52 = .ok (.iconst 3, 1) := by decide +kernel
theorem dX9_init_53 : decode cX9_init 53 = .ok (.newarray .int, 2) := by decide +kernel
theorem dX9_init_55 : decode cX9_init 55 = .ok (.putfield 28, 3) := by decide +kernel
theorem dX9_init_58 : decode cX9_init 58 = .ok (.aload_n 0, 1) := by decide +kernel
theorem dX9_init_59 : decode cX9_init 59 = .ok (.bipush 120, 2) := by decide +kernel
theorem dX9_init_61 : decode cX9_init 61 = .ok (.newarray .int, 2) := by decide +kernel
theorem dX9_init_63 : decode cX9_init 63 = .ok (.putfield 31, 3) := by decide +kernel
theorem dX9_init_66 : decode cX9_init 66 = .ok (.aload_n 0, 1) := by decide +kernel
theorem dX9_init_67 : decode cX9_init 67 = .ok (.iconst 4, 1) := by decide +kernel
theorem dX9_init_68 : decode cX9_init 68 = .ok (.newarray .int, 2) := by decide +kernel
theorem dX9_init_70 : decode cX9_init 70 = .ok (.putfield 34, 3) := by decide +kernel
theorem dX9_init_73 : decode cX9_init 73 = .ok (.aload_n 0, 1) := by decide +kernel
theorem dX9_init_74 : decode cX9_init 74 = .ok (.iconst 4, 1) := by decide +kernel
theorem dX9_init_75 : decode cX9_init 75 = .ok (.newarray .int, 2) := by decide +kernel
theorem dX9_init_77 : decode cX9_init 77 = .ok (.putfield 37, 3) := by decide +kernel
theorem dX9_init_80 : decode cX9_init 80 = .ok (.aload_n 0, 1) := by decide +kernel
theorem dX9_init_81 : decode cX9_init 81 = .ok (.sipush 160, 3) := by decide +kernel
theorem dX9_init_84 : decode cX9_init 84 = .ok (.newarray .long, 2) := by decide +kernel
theorem dX9_init_86 : decode cX9_init 86 = .ok (.putfield 40, 3) := by decide +kernel
theorem dX9_init_89 : decode cX9_init 89 = .ok (.aload_n 0, 1) := by decide +kernel
theorem dX9_init_90 : decode cX9_init 90 = .ok (.bipush 40, 2) := by decide +kernel
theorem dX9_init_92 : decode cX9_init 92 = .ok (.newarray .long, 2) := by decide +kernel
theorem dX9_init_94 : decode cX9_init 94 = .ok (.putfield 44, 3) := by decide +kernel
theorem dX9_init_97 : decode cX9_init 97 = .ok (.iconst 0, 1) := by decide +kernel
theorem dX9_init_98 : decode cX9_init 98 = .ok (.istore_n 1, 1) := by decide +kernel
theorem dX9_init_99 : decode cX9_init 99 = .ok (.iload_n 1, 1) := by decide +kernel
theorem dX9_init_100 : decode cX9_init 100 = .ok (.iconst 3, 1) := by decide +kernel
theorem dX9_init_101 : decode cX9_init 101 = .ok (.if_icmp .ge 20, 3) := by decide +kernel
theorem dX9_init_104 : decode cX9_init 104 = .ok (.aload_n 0, 1) := by decide +kernel
theorem dX9_init_105 : decode cX9_init 105 = .ok (.getfield 7, 3) := by decide +kernel
theorem dX9_init_108 : decode cX9_init 108 = .ok (.iload_n 1, 1) := by decide +kernel
theorem dX9_init_109 : decode cX9_init 109 = .ok (.iconst 4, 1) := by decide +kernel
theorem dX9_init_110 : decode cX9_init 110 = .ok (.invokestatic 47, 3) := by decide +kernel
theorem dX9_init_113 : decode cX9_init 113 = .ok (.iconst (-1), 1) := by decide +kernel
theorem dX9_init_114 : decode cX9_init 114 = .ok (.iastore, 1) := by decide +kernel
theorem dX9_init_115 : decode cX9_init 115 = .ok (.iinc 1 1, 3) := by decide +kernel
theorem dX9_init_118 : decode cX9_init 118 = .ok (.goto (-19), 3) := by decide +kernel
theorem dX9_init_121 : decode cX9_init 121 = .ok (.return_, 1) := by decide +kernel
theorem dX9_in_0 : decode cX9_in 0 = .ok (.lload_n 0, 1) := by decide +kernel
theorem dX9_in_1 : decode cX9_in 1 = .ok (.lload_n 2, 1) := by decide +kernel
theorem dX9_in_2 : decode cX9_in 2 = .ok (.lcmp, 1) := by decide +kernel
theorem dX9_in_3 : decode cX9_in 3 = .ok (.ifCond .lt 14, 3) := by decide +kernel
theorem dX9_in_6 : decode cX9_in 6 = .ok (.lload_n 0, 1) := by decide +kernel
theorem dX9_in_7 : decode cX9_in 7 = .ok (.lload 4, 2) := by decide +kernel
theorem dX9_in_9 : decode cX9_in 9 = .ok (.lcmp, 1) := by decide +kernel
theorem dX9_in_10 : decode cX9_in 10 = .ok (.ifCond .gt 7, 3) := by decide +kernel
theorem dX9_in_13 : decode cX9_in 13 = .ok (.iconst 1, 1) := by decide +kernel
theorem dX9_in_14 : decode cX9_in 14 = .ok (.goto 4, 3) := by decide +kernel
theorem dX9_in_17 : decode cX9_in 17 = .ok (.iconst 0, 1) := by decide +kernel
theorem dX9_in_18 : decode cX9_in 18 = .ok (.ireturn, 1) := by decide +kernel
theorem dX9_finds_0 : decode cX9_finds 0 = .ok (.aload_n 0, 1) := by decide +kernel
theorem dX9_finds_1 : decode cX9_finds 1 = .ok (.getfield 22, 3) := by decide +kernel
theorem dX9_finds_4 : decode cX9_finds 4 = .ok (.ldc 51, 2) := by decide +kernel
theorem dX9_finds_6 : decode cX9_finds 6 = .ok (.iload_n 1, 1) := by decide +kernel
theorem dX9_finds_7 : decode cX9_finds 7 = .ok (.isub, 1) := by decide +kernel
theorem dX9_finds_8 : decode cX9_finds 8 = .ok (.dup2, 1) := by decide +kernel
theorem dX9_finds_9 : decode cX9_finds 9 = .ok (.iaload, 1) := by decide +kernel
theorem dX9_finds_10 : decode cX9_finds 10 = .ok (.iconst 1, 1) := by decide +kernel
theorem dX9_finds_11 : decode cX9_finds 11 = .ok (.iadd, 1) := by decide +kernel
theorem dX9_finds_12 : decode cX9_finds 12 = .ok (.iastore, 1) := by decide +kernel
theorem dX9_finds_13 : decode cX9_finds 13 = .ok (.iload_n 1, 1) := by decide +kernel
theorem dX9_finds_14 : decode cX9_finds 14 = .ok (.ireturn, 1) := by decide +kernel
theorem dX9_saves_0 : decode cX9_saves 0 = .ok (.iconst 0, 1) := by decide +kernel
theorem dX9_saves_1 : decode cX9_saves 1 = .ok (.istore_n 1, 1) := by decide +kernel
theorem dX9_saves_2 : decode cX9_saves 2 = .ok (.iload_n 1, 1) := by decide +kernel
theorem dX9_saves_3 : decode cX9_saves 3 = .ok (.bipush 55, 2) := by decide +kernel
theorem dX9_saves_5 : decode cX9_saves 5 = .ok (.if_icmp .ge 21, 3) := by decide +kernel
theorem dX9_saves_8 : decode cX9_saves 8 = .ok (.aload_n 0, 1) := by decide +kernel
theorem dX9_saves_9 : decode cX9_saves 9 = .ok (.getfield 16, 3) := by decide +kernel
theorem dX9_saves_12 : decode cX9_saves 12 = .ok (.iload_n 1, 1) := by decide +kernel
theorem dX9_saves_13 : decode cX9_saves 13 = .ok (.aload_n 0, 1) := by decide +kernel
theorem dX9_saves_14 : decode cX9_saves 14 = .ok (.getfield 7, 3) := by decide +kernel
theorem dX9_saves_17 : decode cX9_saves 17 = .ok (.iload_n 1, 1) := by decide +kernel
theorem dX9_saves_18 : decode cX9_saves 18 = .ok (.iaload, 1) := by decide +kernel
theorem dX9_saves_19 : decode cX9_saves 19 = .ok (.iastore, 1) := by decide +kernel
theorem dX9_saves_20 : decode cX9_saves 20 = .ok (.iinc 1 1, 3) := by decide +kernel
theorem dX9_saves_23 : decode cX9_saves 23 = .ok (.goto (-21), 3) := by decide +kernel
theorem dX9_saves_26 : decode cX9_saves 26 = .ok (.return_, 1) := by decide +kernel
theorem dX9_putsBack_0 : decode cX9_putsBack 0 = .ok (.iconst 0, 1) := by decide +kernel
theorem dX9_putsBack_1 : decode cX9_putsBack 1 = .ok (.istore_n 1, 1) := by decide +kernel
theorem dX9_putsBack_2 : decode cX9_putsBack 2 = .ok (.iload_n 1, 1) := by decide +kernel
theorem dX9_putsBack_3 : decode cX9_putsBack 3 = .ok (.bipush 55, 2) := by decide +kernel
theorem dX9_putsBack_5 : decode cX9_putsBack 5 = .ok (.if_icmp .ge 21, 3) := by decide +kernel
theorem dX9_putsBack_8 : decode cX9_putsBack 8 = .ok (.aload_n 0, 1) := by decide +kernel
theorem dX9_putsBack_9 : decode cX9_putsBack 9 = .ok (.getfield 7, 3) := by decide +kernel
theorem dX9_putsBack_12 : decode cX9_putsBack 12 = .ok (.iload_n 1, 1) := by decide +kernel
theorem dX9_putsBack_13 : decode cX9_putsBack 13 = .ok (.aload_n 0, 1) := by decide +kernel
theorem dX9_putsBack_14 : decode cX9_putsBack 14 = .ok (.getfield 16, 3) := by decide +kernel
theorem dX9_putsBack_17 : decode cX9_putsBack 17 = .ok (.iload_n 1, 1) := by decide +kernel
theorem dX9_putsBack_18 : decode cX9_putsBack 18 = .ok (.iaload, 1) := by decide +kernel
theorem dX9_putsBack_19 : decode cX9_putsBack 19 = .ok (.iastore, 1) := by decide +kernel
theorem dX9_putsBack_20 : decode cX9_putsBack 20 = .ok (.iinc 1 1, 3) := by decide +kernel
theorem dX9_putsBack_23 : decode cX9_putsBack 23 = .ok (.goto (-21), 3) := by decide +kernel
theorem dX9_putsBack_26 : decode cX9_putsBack 26 = .ok (.return_, 1) := by decide +kernel
theorem dX9_laysAside_0 : decode cX9_laysAside 0 = .ok (.iconst 0, 1) := by decide +kernel
theorem dX9_laysAside_1 : decode cX9_laysAside 1 = .ok (.istore_n 1, 1) := by decide +kernel
theorem dX9_laysAside_2 : decode cX9_laysAside 2 = .ok (.iload_n 1, 1) := by decide +kernel
theorem dX9_laysAside_3 : decode cX9_laysAside 3 = .ok (.bipush 55, 2) := by decide +kernel
theorem dX9_laysAside_5 : decode cX9_laysAside 5 = .ok (.if_icmp .ge 21, 3) := by decide +kernel
theorem dX9_laysAside_8 : decode cX9_laysAside 8 = .ok (.aload_n 0, 1) := by decide +kernel
theorem dX9_laysAside_9 : decode cX9_laysAside 9 = .ok (.getfield 19, 3) := by decide +kernel
theorem dX9_laysAside_12 : decode cX9_laysAside 12 = .ok (.iload_n 1, 1) := by decide +kernel
theorem dX9_laysAside_13 : decode cX9_laysAside 13 = .ok (.aload_n 0, 1) := by decide +kernel
theorem dX9_laysAside_14 : decode cX9_laysAside 14 = .ok (.getfield 7, 3) := by decide +kernel
theorem dX9_laysAside_17 : decode cX9_laysAside 17 = .ok (.iload_n 1, 1) := by decide +kernel
theorem dX9_laysAside_18 : decode cX9_laysAside 18 = .ok (.iaload, 1) := by decide +kernel
theorem dX9_laysAside_19 : decode cX9_laysAside 19 = .ok (.iastore, 1) := by decide +kernel
theorem dX9_laysAside_20 : decode cX9_laysAside 20 = .ok (.iinc 1 1, 3) := by decide +kernel
theorem dX9_laysAside_23 : decode cX9_laysAside 23 = .ok (.goto (-21), 3) := by decide +kernel
theorem dX9_laysAside_26 : decode cX9_laysAside 26 = .ok (.return_, 1) := by decide +kernel
theorem dX9_takesBack_0 : decode cX9_takesBack 0 = .ok (.iconst 0, 1) := by decide +kernel
theorem dX9_takesBack_1 : decode cX9_takesBack 1 = .ok (.istore_n 2, 1) := by decide +kernel
theorem dX9_takesBack_2 : decode cX9_takesBack 2 = .ok (.iload_n 2, 1) := by decide +kernel
theorem dX9_takesBack_3 : decode cX9_takesBack 3 = .ok (.bipush 55, 2) := by decide +kernel
theorem dX9_takesBack_5 : decode cX9_takesBack 5 = .ok (.if_icmp .ge 21, 3) := by decide +kernel
theorem dX9_takesBack_8 : decode cX9_takesBack 8 = .ok (.aload_n 0, 1) := by decide +kernel
theorem dX9_takesBack_9 : decode cX9_takesBack 9 = .ok (.getfield 7, 3) := by decide +kernel
theorem dX9_takesBack_12 : decode cX9_takesBack 12 = .ok (.iload_n 2, 1) := by decide +kernel
theorem dX9_takesBack_13 : decode cX9_takesBack 13 = .ok (.aload_n 0, 1) := by decide +kernel
theorem dX9_takesBack_14 : decode cX9_takesBack 14 = .ok (.getfield 19, 3) := by decide +kernel
theorem dX9_takesBack_17 : decode cX9_takesBack 17 = .ok (.iload_n 2, 1) := by decide +kernel
theorem dX9_takesBack_18 : decode cX9_takesBack 18 = .ok (.iaload, 1) := by decide +kernel
theorem dX9_takesBack_19 : decode cX9_takesBack 19 = .ok (.iastore, 1) := by decide +kernel
theorem dX9_takesBack_20 : decode cX9_takesBack 20 = .ok (.iinc 2 1, 3) := by decide +kernel
theorem dX9_takesBack_23 : decode cX9_takesBack 23 = .ok (.goto (-21), 3) := by decide +kernel
theorem dX9_takesBack_26 : decode cX9_takesBack 26 = .ok (.iload_n 1, 1) := by decide +kernel
theorem dX9_takesBack_27 : decode cX9_takesBack 27 = .ok (.ireturn, 1) := by decide +kernel
theorem dX9_becomes_0 : decode cX9_becomes 0 = .ok (.aload_n 0, 1) := by decide +kernel
theorem dX9_becomes_1 : decode cX9_becomes 1 = .ok (.getfield 7, 3) := by decide +kernel
theorem dX9_becomes_4 : decode cX9_becomes 4 = .ok (.iload_n 1, 1) := by decide +kernel
theorem dX9_becomes_5 : decode cX9_becomes 5 = .ok (.iaload, 1) := by decide +kernel
theorem dX9_becomes_6 : decode cX9_becomes 6 = .ok (.istore_n 3, 1) := by decide +kernel
theorem dX9_becomes_7 : decode cX9_becomes 7 = .ok (.aload_n 0, 1) := by decide +kernel
theorem dX9_becomes_8 : decode cX9_becomes 8 = .ok (.getfield 7, 3) := by decide +kernel
theorem dX9_becomes_11 : decode cX9_becomes 11 = .ok (.iload_n 1, 1) := by decide +kernel
theorem dX9_becomes_12 : decode cX9_becomes 12 = .ok (.iload_n 2, 1) := by decide +kernel
theorem dX9_becomes_13 : decode cX9_becomes 13 = .ok (.iastore, 1) := by decide +kernel
theorem dX9_becomes_14 : decode cX9_becomes 14 = .ok (.iload_n 3, 1) := by decide +kernel
theorem dX9_becomes_15 : decode cX9_becomes 15 = .ok (.ireturn, 1) := by decide +kernel
theorem dX9_isSeat_0 : decode cX9_isSeat 0 = .ok (.iload_n 0, 1) := by decide +kernel
theorem dX9_isSeat_1 : decode cX9_isSeat 1 = .ok (.i2l, 1) := by decide +kernel
theorem dX9_isSeat_2 : decode cX9_isSeat 2 = .ok (.lconst 0, 1) := by decide +kernel
theorem dX9_isSeat_3 : decode cX9_isSeat 3 = .ok (.ldc2_w 52, 3) := by decide +kernel
theorem dX9_isSeat_6 : decode cX9_isSeat 6 = .ok (.invokestatic 54, 3) := by decide +kernel
theorem dX9_isSeat_9 : decode cX9_isSeat 9 = .ok (.ireturn, 1) := by decide +kernel
theorem dX9_isChild_0 : decode cX9_isChild 0 = .ok (.iload_n 1, 1) := by decide +kernel
theorem dX9_isChild_1 : decode cX9_isChild 1 = .ok (.i2l, 1) := by decide +kernel
theorem dX9_isChild_2 : decode cX9_isChild 2 = .ok (.lconst 0, 1) := by decide +kernel
theorem dX9_isChild_3 : decode cX9_isChild 3 = .ok (.aload_n 0, 1) := by decide +kernel
theorem dX9_isChild_4 : decode cX9_isChild 4 = .ok (.getfield 7, 3) := by decide +kernel
theorem dX9_isChild_7 : decode cX9_isChild 7 = .ok (.iconst 0, 1) := by decide +kernel
theorem dX9_isChild_8 : decode cX9_isChild 8 = .ok (.iaload, 1) := by decide +kernel
theorem dX9_isChild_9 : decode cX9_isChild 9 = .ok (.iconst 1, 1) := by decide +kernel
theorem dX9_isChild_10 : decode cX9_isChild 10 = .ok (.isub, 1) := by decide +kernel
theorem dX9_isChild_11 : decode cX9_isChild 11 = .ok (.i2l, 1) := by decide +kernel
theorem dX9_isChild_12 : decode cX9_isChild 12 = .ok (.invokestatic 54, 3) := by decide +kernel
theorem dX9_isChild_15 : decode cX9_isChild 15 = .ok (.ireturn, 1) := by decide +kernel
theorem dX9_isKind_0 : decode cX9_isKind 0 = .ok (.iload_n 0, 1) := by decide +kernel
theorem dX9_isKind_1 : decode cX9_isKind 1 = .ok (.i2l, 1) := by decide +kernel
theorem dX9_isKind_2 : decode cX9_isKind 2 = .ok (.lconst 0, 1) := by decide +kernel
theorem dX9_isKind_3 : decode cX9_isKind 3 = .ok (.ldc2_w 58, 3) := by decide +kernel
theorem dX9_isKind_6 : decode cX9_isKind 6 = .ok (.invokestatic 54, 3) := by decide +kernel
theorem dX9_isKind_9 : decode cX9_isKind 9 = .ok (.ireturn, 1) := by decide +kernel
theorem dX9_spotOf_0 : decode cX9_spotOf 0 = .ok (.iconst 4, 1) := by decide +kernel
theorem dX9_spotOf_1 : decode cX9_spotOf 1 = .ok (.iconst 5, 1) := by decide +kernel
theorem dX9_spotOf_2 : decode cX9_spotOf 2 = .ok (.iload_n 0, 1) := by decide +kernel
theorem dX9_spotOf_3 : decode cX9_spotOf 3 = .ok (.imul, 1) := by decide +kernel
theorem dX9_spotOf_4 : decode cX9_spotOf 4 = .ok (.iadd, 1) := by decide +kernel
theorem dX9_spotOf_5 : decode cX9_spotOf 5 = .ok (.iload_n 1, 1) := by decide +kernel
theorem dX9_spotOf_6 : decode cX9_spotOf 6 = .ok (.iadd, 1) := by decide +kernel
theorem dX9_spotOf_7 : decode cX9_spotOf 7 = .ok (.ireturn, 1) := by decide +kernel
theorem dX9_its_0 : decode cX9_its 0 = .ok (.aload_n 0, 1) := by decide +kernel
theorem dX9_its_1 : decode cX9_its 1 = .ok (.getfield 7, 3) := by decide +kernel
theorem dX9_its_4 : decode cX9_its 4 = .ok (.iload_n 1, 1) := by decide +kernel
theorem dX9_its_5 : decode cX9_its 5 = .ok (.iload_n 2, 1) := by decide +kernel
theorem dX9_its_6 : decode cX9_its 6 = .ok (.invokestatic 47, 3) := by decide +kernel
theorem dX9_its_9 : decode cX9_its 9 = .ok (.iaload, 1) := by decide +kernel
theorem dX9_its_10 : decode cX9_its 10 = .ok (.ireturn, 1) := by decide +kernel
theorem dX9_placeOf_0 : decode cX9_placeOf 0 = .ok (.bipush 19, 2) := by decide +kernel
theorem dX9_placeOf_2 : decode cX9_placeOf 2 = .ok (.bipush 6, 2) := by decide +kernel
theorem dX9_placeOf_4 : decode cX9_placeOf 4 = .ok (.iload_n 0, 1) := by decide +kernel
theorem dX9_placeOf_5 : decode cX9_placeOf 5 = .ok (.imul, 1) := by decide +kernel
theorem dX9_placeOf_6 : decode cX9_placeOf 6 = .ok (.iadd, 1) := by decide +kernel
theorem dX9_placeOf_7 : decode cX9_placeOf 7 = .ok (.iload_n 1, 1) := by decide +kernel
theorem dX9_placeOf_8 : decode cX9_placeOf 8 = .ok (.iadd, 1) := by decide +kernel
theorem dX9_placeOf_9 : decode cX9_placeOf 9 = .ok (.ireturn, 1) := by decide +kernel
theorem dX9_told_0 : decode cX9_told 0 = .ok (.aload_n 0, 1) := by decide +kernel
theorem dX9_told_1 : decode cX9_told 1 = .ok (.getfield 7, 3) := by decide +kernel
theorem dX9_told_4 : decode cX9_told 4 = .ok (.iload_n 1, 1) := by decide +kernel
theorem dX9_told_5 : decode cX9_told 5 = .ok (.iload_n 2, 1) := by decide +kernel
theorem dX9_told_6 : decode cX9_told 6 = .ok (.invokestatic 60, 3) := by decide +kernel
theorem dX9_told_9 : decode cX9_told 9 = .ok (.iaload, 1) := by decide +kernel
theorem dX9_told_10 : decode cX9_told 10 = .ok (.ireturn, 1) := by decide +kernel
theorem dX9_seatedAt_0 : decode cX9_seatedAt 0 = .ok (.iconst (-1), 1) := by decide +kernel
theorem dX9_seatedAt_1 : decode cX9_seatedAt 1 = .ok (.istore_n 2, 1) := by decide +kernel
theorem dX9_seatedAt_2 : decode cX9_seatedAt 2 = .ok (.iconst 0, 1) := by decide +kernel
theorem dX9_seatedAt_3 : decode cX9_seatedAt 3 = .ok (.istore_n 3, 1) := by decide +kernel
theorem dX9_seatedAt_4 : decode cX9_seatedAt 4 = .ok (.iload_n 3, 1) := by decide +kernel
theorem dX9_seatedAt_5 : decode cX9_seatedAt 5 = .ok (.iconst 3, 1) := by decide +kernel
theorem dX9_seatedAt_6 : decode cX9_seatedAt 6 = .ok (.if_icmp .ge 25, 3) := by decide +kernel
theorem dX9_seatedAt_9 : decode cX9_seatedAt 9 = .ok (.aload_n 0, 1) := by decide +kernel
theorem dX9_seatedAt_10 : decode cX9_seatedAt 10 = .ok (.iload_n 3, 1) := by decide +kernel
theorem dX9_seatedAt_11 : decode cX9_seatedAt 11 = .ok (.iconst 4, 1) := by decide +kernel
theorem dX9_seatedAt_12 : decode cX9_seatedAt 12 = .ok (.invokevirtual 63, 3) := by decide +kernel
theorem dX9_seatedAt_15 : decode cX9_seatedAt 15 = .ok (.iload_n 1, 1) := by decide +kernel
theorem dX9_seatedAt_16 : decode cX9_seatedAt 16 = .ok (.if_icmp .ne 7, 3) := by decide +kernel
theorem dX9_seatedAt_19 : decode cX9_seatedAt 19 = .ok (.iload_n 3, 1) := by decide +kernel
theorem dX9_seatedAt_20 : decode cX9_seatedAt 20 = .ok (.goto 4, 3) := by decide +kernel
theorem dX9_seatedAt_23 : decode cX9_seatedAt 23 = .ok (.iload_n 2, 1) := by decide +kernel
theorem dX9_seatedAt_24 : decode cX9_seatedAt 24 = .ok (.istore_n 2, 1) := by decide +kernel
theorem dX9_seatedAt_25 : decode cX9_seatedAt 25 = .ok (.iinc 3 1, 3) := by decide +kernel
theorem dX9_seatedAt_28 : decode cX9_seatedAt 28 = .ok (.goto (-24), 3) := by decide +kernel
theorem dX9_seatedAt_31 : decode cX9_seatedAt 31 = .ok (.iload_n 2, 1) := by decide +kernel
theorem dX9_seatedAt_32 : decode cX9_seatedAt 32 = .ok (.ireturn, 1) := by decide +kernel
theorem dX9_isTaken_0 : decode cX9_isTaken 0 = .ok (.aload_n 0, 1) := by decide +kernel
theorem dX9_isTaken_1 : decode cX9_isTaken 1 = .ok (.iload_n 1, 1) := by decide +kernel
theorem dX9_isTaken_2 : decode cX9_isTaken 2 = .ok (.iconst 4, 1) := by decide +kernel
theorem dX9_isTaken_3 : decode cX9_isTaken 3 = .ok (.invokevirtual 63, 3) := by decide +kernel
theorem dX9_isTaken_6 : decode cX9_isTaken 6 = .ok (.ifCond .lt 7, 3) := by decide +kernel
theorem dX9_isTaken_9 : decode cX9_isTaken 9 = .ok (.iconst 1, 1) := by decide +kernel
theorem dX9_isTaken_10 : decode cX9_isTaken 10 = .ok (.goto 4, 3) := by decide +kernel
theorem dX9_isTaken_13 : decode cX9_isTaken 13 = .ok (.iconst 0, 1) := by decide +kernel
theorem dX9_isTaken_14 : decode cX9_isTaken 14 = .ok (.ireturn, 1) := by decide +kernel
theorem dX9_seat_0 : decode cX9_seat 0 = .ok (.iload_n 2, 1) := by decide +kernel
theorem dX9_seat_1 : decode cX9_seat 1 = .ok (.i2l, 1) := by decide +kernel
theorem dX9_seat_2 : decode cX9_seat 2 = .ok (.lconst 0, 1) := by decide +kernel
theorem dX9_seat_3 : decode cX9_seat 3 = .ok (.ldc2_w 52, 3) := by decide +kernel
theorem dX9_seat_6 : decode cX9_seat 6 = .ok (.invokestatic 54, 3) := by decide +kernel
theorem dX9_seat_9 : decode cX9_seat 9 = .ok (.ifCond .eq 38, 3) := by decide +kernel
theorem dX9_seat_12 : decode cX9_seat 12 = .ok (.iload_n 3, 1) := by decide +kernel
theorem dX9_seat_13 : decode cX9_seat 13 = .ok (.i2l, 1) := by decide +kernel
theorem dX9_seat_14 : decode cX9_seat 14 = .ok (.lconst 0, 1) := by decide +kernel
theorem dX9_seat_15 : decode cX9_seat 15 = .ok (.iload_n 2, 1) := by decide +kernel
theorem dX9_seat_16 : decode cX9_seat 16 = .ok (.ifCond .ne 9, 3) := by decide +kernel
theorem dX9_seat_19 : decode cX9_seat 19 = .ok (.ldc2_w 58, 3) := by decide +kernel
theorem dX9_seat_22 : decode cX9_seat 22 = .ok (.goto 15, 3) := by decide +kernel
theorem dX9_seat_25 : decode cX9_seat 25 = .ok (.iload_n 2, 1) := by decide +kernel
theorem dX9_seat_26 : decode cX9_seat 26 = .ok (.iconst 1, 1) := by decide +kernel
theorem dX9_seat_27 : decode cX9_seat 27 = .ok (.if_icmp .ne 9, 3) := by decide +kernel
theorem dX9_seat_30 : decode cX9_seat 30 = .ok (.ldc2_w 66, 3) := by decide +kernel
theorem dX9_seat_33 : decode cX9_seat 33 = .ok (.goto 4, 3) := by decide +kernel
theorem dX9_seat_36 : decode cX9_seat 36 = .ok (.lconst 1, 1) := by decide +kernel
theorem dX9_seat_37 : decode cX9_seat 37 = .ok (.invokestatic 54, 3) := by decide +kernel
theorem dX9_seat_40 : decode cX9_seat 40 = .ok (.ifCond .eq 7, 3) := by decide +kernel
theorem dX9_seat_43 : decode cX9_seat 43 = .ok (.iconst 1, 1) := by decide +kernel
theorem dX9_seat_44 : decode cX9_seat 44 = .ok (.goto 4, 3) := by decide +kernel
theorem dX9_seat_47 : decode cX9_seat 47 = .ok (.iconst 0, 1) := by decide +kernel
theorem dX9_seat_48 : decode cX9_seat 48 = .ok (.istore 4, 2) := by decide +kernel
theorem dX9_seat_50 : decode cX9_seat 50 = .ok (.iload_n 1, 1) := by decide +kernel
theorem dX9_seat_51 : decode cX9_seat 51 = .ok (.invokestatic 68, 3) := by decide +kernel
theorem dX9_seat_54 : decode cX9_seat 54 = .ok (.ifCond .eq 21, 3) := by decide +kernel
theorem dX9_seat_57 : decode cX9_seat 57 = .ok (.iload 4, 2) := by decide +kernel
theorem dX9_seat_59 : decode cX9_seat 59 = .ok (.ifCond .eq 16, 3) := by decide +kernel
theorem dX9_seat_62 : decode cX9_seat 62 = .ok (.aload_n 0, 1) := by decide +kernel
theorem dX9_seat_63 : decode cX9_seat 63 = .ok (.iload_n 1, 1) := by decide +kernel
theorem dX9_seat_64 : decode cX9_seat 64 = .ok (.iload_n 2, 1) := by decide +kernel
theorem dX9_seat_65 : decode cX9_seat 65 = .ok (.invokestatic 47, 3) := by decide +kernel
theorem dX9_seat_68 : decode cX9_seat 68 = .ok (.iload_n 3, 1) := by decide +kernel
theorem dX9_seat_69 : decode cX9_seat 69 = .ok (.invokevirtual 72, 3) := by decide +kernel
theorem dX9_seat_72 : decode cX9_seat 72 = .ok (.goto 9, 3) := by decide +kernel
theorem dX9_seat_75 : decode cX9_seat 75 = .ok (.aload_n 0, 1) := by decide +kernel
theorem dX9_seat_76 : decode cX9_seat 76 = .ok (.ldc 51, 2) := by decide +kernel
theorem dX9_seat_78 : decode cX9_seat 78 = .ok (.invokevirtual 75, 3) := by decide +kernel
theorem dX9_seat_81 : decode cX9_seat 81 = .ok (.ireturn, 1) := by decide +kernel
theorem dX9_seatOf_0 : decode cX9_seatOf 0 = .ok (.iload_n 1, 1) := by decide +kernel
theorem dX9_seatOf_1 : decode cX9_seatOf 1 = .ok (.invokestatic 68, 3) := by decide +kernel
theorem dX9_seatOf_4 : decode cX9_seatOf 4 = .ok (.ifCond .eq 24, 3) := by decide +kernel
theorem dX9_seatOf_7 : decode cX9_seatOf 7 = .ok (.iload_n 2, 1) := by decide +kernel
theorem dX9_seatOf_8 : decode cX9_seatOf 8 = .ok (.i2l, 1) := by decide +kernel
theorem dX9_seatOf_9 : decode cX9_seatOf 9 = .ok (.lconst 0, 1) := by decide +kernel
theorem dX9_seatOf_10 : decode cX9_seatOf 10 = .ok (.ldc2_w 79, 3) := by decide +kernel
theorem dX9_seatOf_13 : decode cX9_seatOf 13 = .ok (.invokestatic 54, 3) := by decide +kernel
theorem dX9_seatOf_16 : decode cX9_seatOf 16 = .ok (.ifCond .eq 12, 3) := by decide +kernel
theorem dX9_seatOf_19 : decode cX9_seatOf 19 = .ok (.aload_n 0, 1) := by decide +kernel
theorem dX9_seatOf_20 : decode cX9_seatOf 20 = .ok (.iload_n 1, 1) := by decide +kernel
theorem dX9_seatOf_21 : decode cX9_seatOf 21 = .ok (.iload_n 2, 1) := by decide +kernel
theorem dX9_seatOf_22 : decode cX9_seatOf 22 = .ok (.invokevirtual 63, 3) := by decide +kernel
theorem dX9_seatOf_25 : decode cX9_seatOf 25 = .ok (.goto 9, 3) := by decide +kernel
theorem dX9_seatOf_28 : decode cX9_seatOf 28 = .ok (.aload_n 0, 1) := by decide +kernel
theorem dX9_seatOf_29 : decode cX9_seatOf 29 = .ok (.ldc 51, 2) := by decide +kernel
theorem dX9_seatOf_31 : decode cX9_seatOf 31 = .ok (.invokevirtual 75, 3) := by decide +kernel
theorem dX9_seatOf_34 : decode cX9_seatOf 34 = .ok (.ireturn, 1) := by decide +kernel
theorem dX9_rain_0 : decode cX9_rain 0 = .ok (.iload_n 1, 1) := by decide +kernel
theorem dX9_rain_1 : decode cX9_rain 1 = .ok (.i2l, 1) := by decide +kernel
theorem dX9_rain_2 : decode cX9_rain 2 = .ok (.lconst 0, 1) := by decide +kernel
theorem dX9_rain_3 : decode cX9_rain 3 = .ok (.ldc2_w 66, 3) := by decide +kernel
theorem dX9_rain_6 : decode cX9_rain 6 = .ok (.invokestatic 54, 3) := by decide +kernel
theorem dX9_rain_9 : decode cX9_rain 9 = .ok (.ifCond .eq 12, 3) := by decide +kernel
theorem dX9_rain_12 : decode cX9_rain 12 = .ok (.aload_n 0, 1) := by decide +kernel
theorem dX9_rain_13 : decode cX9_rain 13 = .ok (.iconst 3, 1) := by decide +kernel
theorem dX9_rain_14 : decode cX9_rain 14 = .ok (.iload_n 1, 1) := by decide +kernel
theorem dX9_rain_15 : decode cX9_rain 15 = .ok (.invokevirtual 72, 3) := by decide +kernel
theorem dX9_rain_18 : decode cX9_rain 18 = .ok (.goto 9, 3) := by decide +kernel
theorem dX9_rain_21 : decode cX9_rain 21 = .ok (.aload_n 0, 1) := by decide +kernel
theorem dX9_rain_22 : decode cX9_rain 22 = .ok (.ldc 51, 2) := by decide +kernel
theorem dX9_rain_24 : decode cX9_rain 24 = .ok (.invokevirtual 75, 3) := by decide +kernel
theorem dX9_rain_27 : decode cX9_rain 27 = .ok (.ireturn, 1) := by decide +kernel
theorem dX9_adds_0 : decode cX9_adds 0 = .ok (.aload_n 0, 1) := by decide +kernel
theorem dX9_adds_1 : decode cX9_adds 1 = .ok (.getfield 7, 3) := by decide +kernel
theorem dX9_adds_4 : decode cX9_adds 4 = .ok (.iconst 0, 1) := by decide +kernel
theorem dX9_adds_5 : decode cX9_adds 5 = .ok (.iaload, 1) := by decide +kernel
theorem dX9_adds_6 : decode cX9_adds 6 = .ok (.istore_n 2, 1) := by decide +kernel
theorem dX9_adds_7 : decode cX9_adds 7 = .ok (.iconst 0, 1) := by decide +kernel
theorem dX9_adds_8 : decode cX9_adds 8 = .ok (.istore_n 3, 1) := by decide +kernel
theorem dX9_adds_9 : decode cX9_adds 9 = .ok (.iload_n 3, 1) := by decide +kernel
theorem dX9_adds_10 : decode cX9_adds 10 = .ok (.bipush 6, 2) := by decide +kernel
theorem dX9_adds_12 : decode cX9_adds 12 = .ok (.if_icmp .ge 20, 3) := by decide +kernel
theorem dX9_adds_15 : decode cX9_adds 15 = .ok (.aload_n 0, 1) := by decide +kernel
theorem dX9_adds_16 : decode cX9_adds 16 = .ok (.getfield 7, 3) := by decide +kernel
theorem dX9_adds_19 : decode cX9_adds 19 = .ok (.iload_n 2, 1) := by decide +kernel
theorem dX9_adds_20 : decode cX9_adds 20 = .ok (.iload_n 3, 1) := by decide +kernel
theorem dX9_adds_21 : decode cX9_adds 21 = .ok (.invokestatic 60, 3) := by decide +kernel
theorem dX9_adds_24 : decode cX9_adds 24 = .ok (.iconst 0, 1) := by decide +kernel
theorem dX9_adds_25 : decode cX9_adds 25 = .ok (.iastore, 1) := by decide +kernel
theorem dX9_adds_26 : decode cX9_adds 26 = .ok (.iinc 3 1, 3) := by decide +kernel
theorem dX9_adds_29 : decode cX9_adds 29 = .ok (.goto (-20), 3) := by decide +kernel
theorem dX9_adds_32 : decode cX9_adds 32 = .ok (.aload_n 0, 1) := by decide +kernel
theorem dX9_adds_33 : decode cX9_adds 33 = .ok (.getfield 7, 3) := by decide +kernel
theorem dX9_adds_36 : decode cX9_adds 36 = .ok (.iload_n 2, 1) := by decide +kernel
theorem dX9_adds_37 : decode cX9_adds 37 = .ok (.iconst 0, 1) := by decide +kernel
theorem dX9_adds_38 : decode cX9_adds 38 = .ok (.invokestatic 60, 3) := by decide +kernel
theorem dX9_adds_41 : decode cX9_adds 41 = .ok (.iload_n 1, 1) := by decide +kernel
theorem dX9_adds_42 : decode cX9_adds 42 = .ok (.iastore, 1) := by decide +kernel
theorem dX9_adds_43 : decode cX9_adds 43 = .ok (.aload_n 0, 1) := by decide +kernel
theorem dX9_adds_44 : decode cX9_adds 44 = .ok (.getfield 7, 3) := by decide +kernel
theorem dX9_adds_47 : decode cX9_adds 47 = .ok (.iload_n 2, 1) := by decide +kernel
theorem dX9_adds_48 : decode cX9_adds 48 = .ok (.iconst 1, 1) := by decide +kernel
theorem dX9_adds_49 : decode cX9_adds 49 = .ok (.invokestatic 60, 3) := by decide +kernel
theorem dX9_adds_52 : decode cX9_adds 52 = .ok (.bipush 30, 2) := by decide +kernel
theorem dX9_adds_54 : decode cX9_adds 54 = .ok (.iastore, 1) := by decide +kernel
theorem dX9_adds_55 : decode cX9_adds 55 = .ok (.aload_n 0, 1) := by decide +kernel
theorem dX9_adds_56 : decode cX9_adds 56 = .ok (.getfield 7, 3) := by decide +kernel
theorem dX9_adds_59 : decode cX9_adds 59 = .ok (.iload_n 2, 1) := by decide +kernel
theorem dX9_adds_60 : decode cX9_adds 60 = .ok (.iconst 2, 1) := by decide +kernel
theorem dX9_adds_61 : decode cX9_adds 61 = .ok (.invokestatic 60, 3) := by decide +kernel
theorem dX9_adds_64 : decode cX9_adds 64 = .ok (.iconst 5, 1) := by decide +kernel
theorem dX9_adds_65 : decode cX9_adds 65 = .ok (.iastore, 1) := by decide +kernel
theorem dX9_adds_66 : decode cX9_adds 66 = .ok (.aload_n 0, 1) := by decide +kernel
theorem dX9_adds_67 : decode cX9_adds 67 = .ok (.getfield 7, 3) := by decide +kernel
theorem dX9_adds_70 : decode cX9_adds 70 = .ok (.iconst 0, 1) := by decide +kernel
theorem dX9_adds_71 : decode cX9_adds 71 = .ok (.dup2, 1) := by decide +kernel
theorem dX9_adds_72 : decode cX9_adds 72 = .ok (.iaload, 1) := by decide +kernel
theorem dX9_adds_73 : decode cX9_adds 73 = .ok (.iconst 1, 1) := by decide +kernel
theorem dX9_adds_74 : decode cX9_adds 74 = .ok (.iadd, 1) := by decide +kernel
theorem dX9_adds_75 : decode cX9_adds 75 = .ok (.iastore, 1) := by decide +kernel
theorem dX9_adds_76 : decode cX9_adds 76 = .ok (.iload_n 2, 1) := by decide +kernel
theorem dX9_adds_77 : decode cX9_adds 77 = .ok (.ireturn, 1) := by decide +kernel
theorem dX9_child_0 : decode cX9_child 0 = .ok (.iload_n 1, 1) := by decide +kernel
theorem dX9_child_1 : decode cX9_child 1 = .ok (.invokestatic 81, 3) := by decide +kernel
theorem dX9_child_4 : decode cX9_child 4 = .ok (.ifCond .ne 10, 3) := by decide +kernel
theorem dX9_child_7 : decode cX9_child 7 = .ok (.aload_n 0, 1) := by decide +kernel
theorem dX9_child_8 : decode cX9_child 8 = .ok (.ldc 51, 2) := by decide +kernel
theorem dX9_child_10 : decode cX9_child 10 = .ok (.invokevirtual 75, 3) := by decide +kernel
theorem dX9_child_13 : decode cX9_child 13 = .ok (.ireturn, 1) := by decide +kernel
theorem dX9_child_14 : decode cX9_child 14 = .ok (.aload_n 0, 1) := by decide +kernel
theorem dX9_child_15 : decode cX9_child 15 = .ok (.getfield 7, 3) := by decide +kernel
theorem dX9_child_18 : decode cX9_child 18 = .ok (.iconst 0, 1) := by decide +kernel
theorem dX9_child_19 : decode cX9_child 19 = .ok (.iaload, 1) := by decide +kernel
theorem dX9_child_20 : decode cX9_child 20 = .ok (.bipush 6, 2) := by decide +kernel
theorem dX9_child_22 : decode cX9_child 22 = .ok (.if_icmp .ne 12, 3) := by decide +kernel
theorem dX9_child_25 : decode cX9_child 25 = .ok (.aload_n 0, 1) := by decide +kernel
theorem dX9_child_26 : decode cX9_child 26 = .ok (.ldc 84, 2) := by decide +kernel
theorem dX9_child_28 : decode cX9_child 28 = .ok (.invokevirtual 75, 3) := by decide +kernel
theorem dX9_child_31 : decode cX9_child 31 = .ok (.goto 8, 3) := by decide +kernel
theorem dX9_child_34 : decode cX9_child 34 = .ok (.aload_n 0, 1) := by decide +kernel
theorem dX9_child_35 : decode cX9_child 35 = .ok (.iload_n 1, 1) := by decide +kernel
theorem dX9_child_36 : decode cX9_child 36 = .ok (.invokevirtual 85, 3) := by decide +kernel
theorem dX9_child_39 : decode cX9_child 39 = .ok (.ireturn, 1) := by decide +kernel
theorem dX9_isNear_0 : decode cX9_isNear 0 = .ok (.iload_n 1, 1) := by decide +kernel
theorem dX9_isNear_1 : decode cX9_isNear 1 = .ok (.iconst 1, 1) := by decide +kernel
theorem dX9_isNear_2 : decode cX9_isNear 2 = .ok (.if_icmp .ne 27, 3) := by decide +kernel
theorem dX9_isNear_5 : decode cX9_isNear 5 = .ok (.aload_n 0, 1) := by decide +kernel
theorem dX9_isNear_6 : decode cX9_isNear 6 = .ok (.iconst 0, 1) := by decide +kernel
theorem dX9_isNear_7 : decode cX9_isNear 7 = .ok (.invokevirtual 88, 3) := by decide +kernel
theorem dX9_isNear_10 : decode cX9_isNear 10 = .ok (.ifCond .ne 11, 3) := by decide +kernel
theorem dX9_isNear_13 : decode cX9_isNear 13 = .ok (.aload_n 0, 1) := by decide +kernel
theorem dX9_isNear_14 : decode cX9_isNear 14 = .ok (.iconst 2, 1) := by decide +kernel
theorem dX9_isNear_15 : decode cX9_isNear 15 = .ok (.invokevirtual 88, 3) := by decide +kernel
theorem dX9_isNear_18 : decode cX9_isNear 18 = .ok (.ifCond .eq 7, 3) := by decide +kernel
theorem dX9_isNear_21 : decode cX9_isNear 21 = .ok (.iconst 1, 1) := by decide +kernel
theorem dX9_isNear_22 : decode cX9_isNear 22 = .ok (.goto 12, 3) := by decide +kernel
theorem dX9_isNear_25 : decode cX9_isNear 25 = .ok (.iconst 0, 1) := by decide +kernel
theorem dX9_isNear_26 : decode cX9_isNear 26 = .ok (.goto 8, 3) := by decide +kernel
theorem dX9_isNear_29 : decode cX9_isNear 29 = .ok (.aload_n 0, 1) := by decide +kernel
theorem dX9_isNear_30 : decode cX9_isNear 30 = .ok (.iconst 1, 1) := by decide +kernel
theorem dX9_isNear_31 : decode cX9_isNear 31 = .ok (.invokevirtual 88, 3) := by decide +kernel
theorem dX9_isNear_34 : decode cX9_isNear 34 = .ok (.ireturn, 1) := by decide +kernel
theorem dX9_frets_0 : decode cX9_frets 0 = .ok (.aload_n 0, 1) := by decide +kernel
theorem dX9_frets_1 : decode cX9_frets 1 = .ok (.iload_n 1, 1) := by decide +kernel
theorem dX9_frets_2 : decode cX9_frets 2 = .ok (.invokevirtual 91, 3) := by decide +kernel
theorem dX9_frets_5 : decode cX9_frets 5 = .ok (.istore_n 2, 1) := by decide +kernel
theorem dX9_frets_6 : decode cX9_frets 6 = .ok (.aload_n 0, 1) := by decide +kernel
theorem dX9_frets_7 : decode cX9_frets 7 = .ok (.getfield 7, 3) := by decide +kernel
theorem dX9_frets_10 : decode cX9_frets 10 = .ok (.iconst 1, 1) := by decide +kernel
theorem dX9_frets_11 : decode cX9_frets 11 = .ok (.iaload, 1) := by decide +kernel
theorem dX9_frets_12 : decode cX9_frets 12 = .ok (.iconst 3, 1) := by decide +kernel
theorem dX9_frets_13 : decode cX9_frets 13 = .ok (.irem, 1) := by decide +kernel
theorem dX9_frets_14 : decode cX9_frets 14 = .ok (.ifCond .ne 7, 3) := by decide +kernel
theorem dX9_frets_17 : decode cX9_frets 17 = .ok (.iconst 1, 1) := by decide +kernel
theorem dX9_frets_18 : decode cX9_frets 18 = .ok (.goto 4, 3) := by decide +kernel
theorem dX9_frets_21 : decode cX9_frets 21 = .ok (.iconst 0, 1) := by decide +kernel
theorem dX9_frets_22 : decode cX9_frets 22 = .ok (.istore_n 3, 1) := by decide +kernel
theorem dX9_frets_23 : decode cX9_frets 23 = .ok (.aload_n 0, 1) := by decide +kernel
theorem dX9_frets_24 : decode cX9_frets 24 = .ok (.iload_n 1, 1) := by decide +kernel
theorem dX9_frets_25 : decode cX9_frets 25 = .ok (.iconst 5, 1) := by decide +kernel
theorem dX9_frets_26 : decode cX9_frets 26 = .ok (.invokevirtual 94, 3) := by decide +kernel
theorem dX9_frets_29 : decode cX9_frets 29 = .ok (.bipush 6, 2) := by decide +kernel
theorem dX9_frets_31 : decode cX9_frets 31 = .ok (.if_icmp .le 9, 3) := by decide +kernel
theorem dX9_frets_34 : decode cX9_frets 34 = .ok (.iload_n 3, 1) := by decide +kernel
theorem dX9_frets_35 : decode cX9_frets 35 = .ok (.iconst 1, 1) := by decide +kernel
theorem dX9_frets_36 : decode cX9_frets 36 = .ok (.iadd, 1) := by decide +kernel
theorem dX9_frets_37 : decode cX9_frets 37 = .ok (.goto 4, 3) := by decide +kernel
theorem dX9_frets_40 : decode cX9_frets 40 = .ok (.iload_n 3, 1) := by decide +kernel
theorem dX9_frets_41 : decode cX9_frets 41 = .ok (.istore 4, 2) := by decide +kernel
theorem dX9_frets_43 : decode cX9_frets 43 = .ok (.aload_n 0, 1) := by decide +kernel
theorem dX9_frets_44 : decode cX9_frets 44 = .ok (.iload_n 1, 1) := by decide +kernel
theorem dX9_frets_45 : decode cX9_frets 45 = .ok (.iconst 0, 1) := by decide +kernel
theorem dX9_frets_46 : decode cX9_frets 46 = .ok (.invokevirtual 94, 3) := by decide +kernel
theorem dX9_frets_49 : decode cX9_frets 49 = .ok (.tableswitch 59 1 4 #[31, 59, 34, 54], 31) := by decide +kernel
theorem dX9_frets_80 : decode cX9_frets 80 = .ok (.iload 4, 2) := by decide +kernel
theorem dX9_frets_82 : decode cX9_frets 82 = .ok (.ireturn, 1) := by decide +kernel
theorem dX9_frets_83 : decode cX9_frets 83 = .ok (.iload_n 2, 1) := by decide +kernel
theorem dX9_frets_84 : decode cX9_frets 84 = .ok (.ifCond .lt 11, 3) := by decide +kernel
theorem dX9_frets_87 : decode cX9_frets 87 = .ok (.aload_n 0, 1) := by decide +kernel
theorem dX9_frets_88 : decode cX9_frets 88 = .ok (.iload_n 2, 1) := by decide +kernel
theorem dX9_frets_89 : decode cX9_frets 89 = .ok (.invokevirtual 97, 3) := by decide +kernel
theorem dX9_frets_92 : decode cX9_frets 92 = .ok (.ifCond .ne 9, 3) := by decide +kernel
theorem dX9_frets_95 : decode cX9_frets 95 = .ok (.iload_n 3, 1) := by decide +kernel
theorem dX9_frets_96 : decode cX9_frets 96 = .ok (.iconst 1, 1) := by decide +kernel
theorem dX9_frets_97 : decode cX9_frets 97 = .ok (.iadd, 1) := by decide +kernel
theorem dX9_frets_98 : decode cX9_frets 98 = .ok (.goto 4, 3) := by decide +kernel
theorem dX9_frets_101 : decode cX9_frets 101 = .ok (.iload_n 3, 1) := by decide +kernel
theorem dX9_frets_102 : decode cX9_frets 102 = .ok (.ireturn, 1) := by decide +kernel
theorem dX9_frets_103 : decode cX9_frets 103 = .ok (.iconst 2, 1) := by decide +kernel
theorem dX9_frets_104 : decode cX9_frets 104 = .ok (.iload 4, 2) := by decide +kernel
theorem dX9_frets_106 : decode cX9_frets 106 = .ok (.imul, 1) := by decide +kernel
theorem dX9_frets_107 : decode cX9_frets 107 = .ok (.ireturn, 1) := by decide +kernel
theorem dX9_frets_108 : decode cX9_frets 108 = .ok (.iload_n 3, 1) := by decide +kernel
theorem dX9_frets_109 : decode cX9_frets 109 = .ok (.ireturn, 1) := by decide +kernel
theorem dX9_of_0 : decode cX9_of 0 = .ok (.aload_n 0, 1) := by decide +kernel
theorem dX9_of_1 : decode cX9_of 1 = .ok (.iload_n 1, 1) := by decide +kernel
theorem dX9_of_2 : decode cX9_of 2 = .ok (.invokevirtual 100, 3) := by decide +kernel
theorem dX9_of_5 : decode cX9_of 5 = .ok (.ifCond .eq 15, 3) := by decide +kernel
theorem dX9_of_8 : decode cX9_of 8 = .ok (.iload_n 2, 1) := by decide +kernel
theorem dX9_of_9 : decode cX9_of 9 = .ok (.i2l, 1) := by decide +kernel
theorem dX9_of_10 : decode cX9_of 10 = .ok (.lconst 0, 1) := by decide +kernel
theorem dX9_of_11 : decode cX9_of 11 = .ok (.ldc2_w 103, 3) := by decide +kernel
theorem dX9_of_14 : decode cX9_of 14 = .ok (.invokestatic 54, 3) := by decide +kernel
theorem dX9_of_17 : decode cX9_of 17 = .ok (.ifCond .ne 10, 3) := by decide +kernel
theorem dX9_of_20 : decode cX9_of 20 = .ok (.aload_n 0, 1) := by decide +kernel
theorem dX9_of_21 : decode cX9_of 21 = .ok (.ldc 51, 2) := by decide +kernel
theorem dX9_of_23 : decode cX9_of 23 = .ok (.invokevirtual 75, 3) := by decide +kernel
theorem dX9_of_26 : decode cX9_of 26 = .ok (.ireturn, 1) := by decide +kernel
theorem dX9_of_27 : decode cX9_of 27 = .ok (.iload_n 2, 1) := by decide +kernel
theorem dX9_of_28 : decode cX9_of 28 = .ok (.iconst 5, 1) := by decide +kernel
theorem dX9_of_29 : decode cX9_of 29 = .ok (.if_icmp .gt 12, 3) := by decide +kernel
theorem dX9_of_32 : decode cX9_of 32 = .ok (.aload_n 0, 1) := by decide +kernel
theorem dX9_of_33 : decode cX9_of 33 = .ok (.iload_n 1, 1) := by decide +kernel
theorem dX9_of_34 : decode cX9_of 34 = .ok (.iload_n 2, 1) := by decide +kernel
theorem dX9_of_35 : decode cX9_of 35 = .ok (.invokevirtual 94, 3) := by decide +kernel
theorem dX9_of_38 : decode cX9_of 38 = .ok (.goto 22, 3) := by decide +kernel
theorem dX9_of_41 : decode cX9_of 41 = .ok (.iload_n 2, 1) := by decide +kernel
theorem dX9_of_42 : decode cX9_of 42 = .ok (.bipush 6, 2) := by decide +kernel
theorem dX9_of_44 : decode cX9_of 44 = .ok (.if_icmp .ne 11, 3) := by decide +kernel
theorem dX9_of_47 : decode cX9_of 47 = .ok (.aload_n 0, 1) := by decide +kernel
theorem dX9_of_48 : decode cX9_of 48 = .ok (.iload_n 1, 1) := by decide +kernel
theorem dX9_of_49 : decode cX9_of 49 = .ok (.invokevirtual 91, 3) := by decide +kernel
theorem dX9_of_52 : decode cX9_of 52 = .ok (.goto 8, 3) := by decide +kernel
theorem dX9_of_55 : decode cX9_of 55 = .ok (.aload_n 0, 1) := by decide +kernel
theorem dX9_of_56 : decode cX9_of 56 = .ok (.iload_n 1, 1) := by decide +kernel
theorem dX9_of_57 : decode cX9_of 57 = .ok (.invokevirtual 105, 3) := by decide +kernel
theorem dX9_of_60 : decode cX9_of 60 = .ok (.ireturn, 1) := by decide +kernel
theorem dX9_set_0 : decode cX9_set 0 = .ok (.iload_n 2, 1) := by decide +kernel
theorem dX9_set_1 : decode cX9_set 1 = .ok (.i2l, 1) := by decide +kernel
theorem dX9_set_2 : decode cX9_set 2 = .ok (.lconst 1, 1) := by decide +kernel
theorem dX9_set_3 : decode cX9_set 3 = .ok (.ldc2_w 79, 3) := by decide +kernel
theorem dX9_set_6 : decode cX9_set 6 = .ok (.invokestatic 54, 3) := by decide +kernel
theorem dX9_set_9 : decode cX9_set 9 = .ok (.ifCond .eq 39, 3) := by decide +kernel
theorem dX9_set_12 : decode cX9_set 12 = .ok (.iload_n 3, 1) := by decide +kernel
theorem dX9_set_13 : decode cX9_set 13 = .ok (.i2l, 1) := by decide +kernel
theorem dX9_set_14 : decode cX9_set 14 = .ok (.lconst 0, 1) := by decide +kernel
theorem dX9_set_15 : decode cX9_set 15 = .ok (.iload_n 2, 1) := by decide +kernel
theorem dX9_set_16 : decode cX9_set 16 = .ok (.iconst 1, 1) := by decide +kernel
theorem dX9_set_17 : decode cX9_set 17 = .ok (.if_icmp .ne 9, 3) := by decide +kernel
theorem dX9_set_20 : decode cX9_set 20 = .ok (.ldc2_w 108, 3) := by decide +kernel
theorem dX9_set_23 : decode cX9_set 23 = .ok (.goto 15, 3) := by decide +kernel
theorem dX9_set_26 : decode cX9_set 26 = .ok (.iload_n 2, 1) := by decide +kernel
theorem dX9_set_27 : decode cX9_set 27 = .ok (.iconst 3, 1) := by decide +kernel
theorem dX9_set_28 : decode cX9_set 28 = .ok (.if_icmp .ne 7, 3) := by decide +kernel
theorem dX9_set_31 : decode cX9_set 31 = .ok (.lconst 1, 1) := by decide +kernel
theorem dX9_set_32 : decode cX9_set 32 = .ok (.goto 6, 3) := by decide +kernel
theorem dX9_set_35 : decode cX9_set 35 = .ok (.ldc2_w 66, 3) := by decide +kernel
theorem dX9_set_38 : decode cX9_set 38 = .ok (.invokestatic 54, 3) := by decide +kernel
theorem dX9_set_41 : decode cX9_set 41 = .ok (.ifCond .eq 7, 3) := by decide +kernel
theorem dX9_set_44 : decode cX9_set 44 = .ok (.iconst 1, 1) := by decide +kernel
theorem dX9_set_45 : decode cX9_set 45 = .ok (.goto 4, 3) := by decide +kernel
theorem dX9_set_48 : decode cX9_set 48 = .ok (.iconst 0, 1) := by decide +kernel
theorem dX9_set_49 : decode cX9_set 49 = .ok (.istore 4, 2) := by decide +kernel
theorem dX9_set_51 : decode cX9_set 51 = .ok (.aload_n 0, 1) := by decide +kernel
theorem dX9_set_52 : decode cX9_set 52 = .ok (.iload_n 1, 1) := by decide +kernel
theorem dX9_set_53 : decode cX9_set 53 = .ok (.invokevirtual 100, 3) := by decide +kernel
theorem dX9_set_56 : decode cX9_set 56 = .ok (.ifCond .eq 21, 3) := by decide +kernel
theorem dX9_set_59 : decode cX9_set 59 = .ok (.iload 4, 2) := by decide +kernel
theorem dX9_set_61 : decode cX9_set 61 = .ok (.ifCond .eq 16, 3) := by decide +kernel
theorem dX9_set_64 : decode cX9_set 64 = .ok (.aload_n 0, 1) := by decide +kernel
theorem dX9_set_65 : decode cX9_set 65 = .ok (.iload_n 1, 1) := by decide +kernel
theorem dX9_set_66 : decode cX9_set 66 = .ok (.iload_n 2, 1) := by decide +kernel
theorem dX9_set_67 : decode cX9_set 67 = .ok (.invokestatic 60, 3) := by decide +kernel
theorem dX9_set_70 : decode cX9_set 70 = .ok (.iload_n 3, 1) := by decide +kernel
theorem dX9_set_71 : decode cX9_set 71 = .ok (.invokevirtual 72, 3) := by decide +kernel
theorem dX9_set_74 : decode cX9_set 74 = .ok (.goto 9, 3) := by decide +kernel
theorem dX9_set_77 : decode cX9_set 77 = .ok (.aload_n 0, 1) := by decide +kernel
theorem dX9_set_78 : decode cX9_set 78 = .ok (.ldc 51, 2) := by decide +kernel
theorem dX9_set_80 : decode cX9_set 80 = .ok (.invokevirtual 75, 3) := by decide +kernel
theorem dX9_set_83 : decode cX9_set 83 = .ok (.ireturn, 1) := by decide +kernel
theorem dX9_turn_0 : decode cX9_turn 0 = .ok (.aload_n 0, 1) := by decide +kernel
theorem dX9_turn_1 : decode cX9_turn 1 = .ok (.iload_n 1, 1) := by decide +kernel
theorem dX9_turn_2 : decode cX9_turn 2 = .ok (.invokevirtual 100, 3) := by decide +kernel
theorem dX9_turn_5 : decode cX9_turn 5 = .ok (.ifCond .eq 23, 3) := by decide +kernel
theorem dX9_turn_8 : decode cX9_turn 8 = .ok (.iload_n 2, 1) := by decide +kernel
theorem dX9_turn_9 : decode cX9_turn 9 = .ok (.invokestatic 81, 3) := by decide +kernel
theorem dX9_turn_12 : decode cX9_turn 12 = .ok (.ifCond .eq 16, 3) := by decide +kernel
theorem dX9_turn_15 : decode cX9_turn 15 = .ok (.aload_n 0, 1) := by decide +kernel
theorem dX9_turn_16 : decode cX9_turn 16 = .ok (.iload_n 1, 1) := by decide +kernel
theorem dX9_turn_17 : decode cX9_turn 17 = .ok (.iconst 0, 1) := by decide +kernel
theorem dX9_turn_18 : decode cX9_turn 18 = .ok (.invokestatic 60, 3) := by decide +kernel
theorem dX9_turn_21 : decode cX9_turn 21 = .ok (.iload_n 2, 1) := by decide +kernel
theorem dX9_turn_22 : decode cX9_turn 22 = .ok (.invokevirtual 72, 3) := by decide +kernel
theorem dX9_turn_25 : decode cX9_turn 25 = .ok (.goto 9, 3) := by decide +kernel
theorem dX9_turn_28 : decode cX9_turn 28 = .ok (.aload_n 0, 1) := by decide +kernel
theorem dX9_turn_29 : decode cX9_turn 29 = .ok (.ldc 51, 2) := by decide +kernel
theorem dX9_turn_31 : decode cX9_turn 31 = .ok (.invokevirtual 75, 3) := by decide +kernel
theorem dX9_turn_34 : decode cX9_turn 34 = .ok (.ireturn, 1) := by decide +kernel
theorem dX9_isUnder_0 : decode cX9_isUnder 0 = .ok (.iload_n 1, 1) := by decide +kernel
theorem dX9_isUnder_1 : decode cX9_isUnder 1 = .ok (.ifCond .eq 20, 3) := by decide +kernel
theorem dX9_isUnder_4 : decode cX9_isUnder 4 = .ok (.iload_n 0, 1) := by decide +kernel
theorem dX9_isUnder_5 : decode cX9_isUnder 5 = .ok (.iload_n 1, 1) := by decide +kernel
theorem dX9_isUnder_6 : decode cX9_isUnder 6 = .ok (.if_icmp .eq 15, 3) := by decide +kernel
theorem dX9_isUnder_9 : decode cX9_isUnder 9 = .ok (.iload_n 0, 1) := by decide +kernel
theorem dX9_isUnder_10 : decode cX9_isUnder 10 = .ok (.iconst 3, 1) := by decide +kernel
theorem dX9_isUnder_11 : decode cX9_isUnder 11 = .ok (.if_icmp .le 14, 3) := by decide +kernel
theorem dX9_isUnder_14 : decode cX9_isUnder 14 = .ok (.iload_n 0, 1) := by decide +kernel
theorem dX9_isUnder_15 : decode cX9_isUnder 15 = .ok (.iconst 3, 1) := by decide +kernel
theorem dX9_isUnder_16 : decode cX9_isUnder 16 = .ok (.isub, 1) := by decide +kernel
theorem dX9_isUnder_17 : decode cX9_isUnder 17 = .ok (.iload_n 1, 1) := by decide +kernel
theorem dX9_isUnder_18 : decode cX9_isUnder 18 = .ok (.if_icmp .ne 7, 3) := by decide +kernel
theorem dX9_isUnder_21 : decode cX9_isUnder 21 = .ok (.iconst 1, 1) := by decide +kernel
theorem dX9_isUnder_22 : decode cX9_isUnder 22 = .ok (.goto 4, 3) := by decide +kernel
theorem dX9_isUnder_25 : decode cX9_isUnder 25 = .ok (.iconst 0, 1) := by decide +kernel
theorem dX9_isUnder_26 : decode cX9_isUnder 26 = .ok (.ireturn, 1) := by decide +kernel
theorem dX9_as_0 : decode cX9_as 0 = .ok (.aload_n 0, 1) := by decide +kernel
theorem dX9_as_1 : decode cX9_as 1 = .ok (.iload_n 1, 1) := by decide +kernel
theorem dX9_as_2 : decode cX9_as 2 = .ok (.invokevirtual 100, 3) := by decide +kernel
theorem dX9_as_5 : decode cX9_as 5 = .ok (.ifCond .eq 10, 3) := by decide +kernel
theorem dX9_as_8 : decode cX9_as 8 = .ok (.iload_n 2, 1) := by decide +kernel
theorem dX9_as_9 : decode cX9_as 9 = .ok (.invokestatic 81, 3) := by decide +kernel
theorem dX9_as_12 : decode cX9_as 12 = .ok (.ifCond .ne 10, 3) := by decide +kernel
theorem dX9_as_15 : decode cX9_as 15 = .ok (.aload_n 0, 1) := by decide +kernel
theorem dX9_as_16 : decode cX9_as 16 = .ok (.ldc 51, 2) := by decide +kernel
theorem dX9_as_18 : decode cX9_as 18 = .ok (.invokevirtual 75, 3) := by decide +kernel
theorem dX9_as_21 : decode cX9_as 21 = .ok (.ireturn, 1) := by decide +kernel
theorem dX9_as_22 : decode cX9_as 22 = .ok (.aload_n 0, 1) := by decide +kernel
theorem dX9_as_23 : decode cX9_as 23 = .ok (.iload_n 1, 1) := by decide +kernel
theorem dX9_as_24 : decode cX9_as 24 = .ok (.iconst 0, 1) := by decide +kernel
theorem dX9_as_25 : decode cX9_as 25 = .ok (.invokevirtual 94, 3) := by decide +kernel
theorem dX9_as_28 : decode cX9_as 28 = .ok (.iload_n 2, 1) := by decide +kernel
theorem dX9_as_29 : decode cX9_as 29 = .ok (.invokestatic 110, 3) := by decide +kernel
theorem dX9_as_32 : decode cX9_as 32 = .ok (.ifCond .eq 12, 3) := by decide +kernel
theorem dX9_as_35 : decode cX9_as 35 = .ok (.aload_n 0, 1) := by decide +kernel
theorem dX9_as_36 : decode cX9_as 36 = .ok (.iload_n 1, 1) := by decide +kernel
theorem dX9_as_37 : decode cX9_as 37 = .ok (.iconst 2, 1) := by decide +kernel
theorem dX9_as_38 : decode cX9_as 38 = .ok (.invokevirtual 94, 3) := by decide +kernel
theorem dX9_as_41 : decode cX9_as 41 = .ok (.goto 9, 3) := by decide +kernel
theorem dX9_as_44 : decode cX9_as 44 = .ok (.aload_n 0, 1) := by decide +kernel
theorem dX9_as_45 : decode cX9_as 45 = .ok (.ldc 114, 2) := by decide +kernel
theorem dX9_as_47 : decode cX9_as 47 = .ok (.invokevirtual 75, 3) := by decide +kernel
theorem dX9_as_50 : decode cX9_as 50 = .ok (.ireturn, 1) := by decide +kernel
theorem dX9_takes_0 : decode cX9_takes 0 = .ok (.bipush 10, 2) := by decide +kernel
theorem dX9_takes_2 : decode cX9_takes 2 = .ok (.iconst 3, 1) := by decide +kernel
theorem dX9_takes_3 : decode cX9_takes 3 = .ok (.aload_n 0, 1) := by decide +kernel
theorem dX9_takes_4 : decode cX9_takes 4 = .ok (.iload_n 1, 1) := by decide +kernel
theorem dX9_takes_5 : decode cX9_takes 5 = .ok (.iconst 4, 1) := by decide +kernel
theorem dX9_takes_6 : decode cX9_takes 6 = .ok (.invokevirtual 94, 3) := by decide +kernel
theorem dX9_takes_9 : decode cX9_takes 9 = .ok (.imul, 1) := by decide +kernel
theorem dX9_takes_10 : decode cX9_takes 10 = .ok (.iadd, 1) := by decide +kernel
theorem dX9_takes_11 : decode cX9_takes 11 = .ok (.istore_n 3, 1) := by decide +kernel
theorem dX9_takes_12 : decode cX9_takes 12 = .ok (.aload_n 0, 1) := by decide +kernel
theorem dX9_takes_13 : decode cX9_takes 13 = .ok (.iload_n 1, 1) := by decide +kernel
theorem dX9_takes_14 : decode cX9_takes 14 = .ok (.iconst 0, 1) := by decide +kernel
theorem dX9_takes_15 : decode cX9_takes 15 = .ok (.invokevirtual 94, 3) := by decide +kernel
theorem dX9_takes_18 : decode cX9_takes 18 = .ok (.tableswitch 91 1 5 #[34, 36, 38, 56, 74], 34) := by decide +kernel
theorem dX9_takes_52 : decode cX9_takes 52 = .ok (.iload_n 3, 1) := by decide +kernel
theorem dX9_takes_53 : decode cX9_takes 53 = .ok (.ireturn, 1) := by decide +kernel
theorem dX9_takes_54 : decode cX9_takes 54 = .ok (.iconst 5, 1) := by decide +kernel
theorem dX9_takes_55 : decode cX9_takes 55 = .ok (.ireturn, 1) := by decide +kernel
theorem dX9_takes_56 : decode cX9_takes 56 = .ok (.aload_n 0, 1) := by decide +kernel
theorem dX9_takes_57 : decode cX9_takes 57 = .ok (.iload_n 2, 1) := by decide +kernel
theorem dX9_takes_58 : decode cX9_takes 58 = .ok (.iconst 2, 1) := by decide +kernel
theorem dX9_takes_59 : decode cX9_takes 59 = .ok (.invokevirtual 63, 3) := by decide +kernel
theorem dX9_takes_62 : decode cX9_takes 62 = .ok (.iconst 1, 1) := by decide +kernel
theorem dX9_takes_63 : decode cX9_takes 63 = .ok (.if_icmp .ne 8, 3) := by decide +kernel
theorem dX9_takes_66 : decode cX9_takes 66 = .ok (.bipush 10, 2) := by decide +kernel
theorem dX9_takes_68 : decode cX9_takes 68 = .ok (.goto 5, 3) := by decide +kernel
theorem dX9_takes_71 : decode cX9_takes 71 = .ok (.bipush 15, 2) := by decide +kernel
theorem dX9_takes_73 : decode cX9_takes 73 = .ok (.ireturn, 1) := by decide +kernel
theorem dX9_takes_74 : decode cX9_takes 74 = .ok (.aload_n 0, 1) := by decide +kernel
theorem dX9_takes_75 : decode cX9_takes 75 = .ok (.iload_n 1, 1) := by decide +kernel
theorem dX9_takes_76 : decode cX9_takes 76 = .ok (.iconst 2, 1) := by decide +kernel
theorem dX9_takes_77 : decode cX9_takes 77 = .ok (.invokevirtual 94, 3) := by decide +kernel
theorem dX9_takes_80 : decode cX9_takes 80 = .ok (.iconst 3, 1) := by decide +kernel
theorem dX9_takes_81 : decode cX9_takes 81 = .ok (.if_icmp .ge 9, 3) := by decide +kernel
theorem dX9_takes_84 : decode cX9_takes 84 = .ok (.iconst 2, 1) := by decide +kernel
theorem dX9_takes_85 : decode cX9_takes 85 = .ok (.iload_n 3, 1) := by decide +kernel
theorem dX9_takes_86 : decode cX9_takes 86 = .ok (.imul, 1) := by decide +kernel
theorem dX9_takes_87 : decode cX9_takes 87 = .ok (.goto 4, 3) := by decide +kernel
theorem dX9_takes_90 : decode cX9_takes 90 = .ok (.iload_n 3, 1) := by decide +kernel
theorem dX9_takes_91 : decode cX9_takes 91 = .ok (.ireturn, 1) := by decide +kernel
theorem dX9_takes_92 : decode cX9_takes 92 = .ok (.aload_n 0, 1) := by decide +kernel
theorem dX9_takes_93 : decode cX9_takes 93 = .ok (.iload_n 1, 1) := by decide +kernel
theorem dX9_takes_94 : decode cX9_takes 94 = .ok (.iconst 2, 1) := by decide +kernel
theorem dX9_takes_95 : decode cX9_takes 95 = .ok (.invokevirtual 94, 3) := by decide +kernel
theorem dX9_takes_98 : decode cX9_takes 98 = .ok (.bipush 7, 2) := by decide +kernel
theorem dX9_takes_100 : decode cX9_takes 100 = .ok (.if_icmp .lt 7, 3) := by decide +kernel
theorem dX9_takes_103 : decode cX9_takes 103 = .ok (.iconst 0, 1) := by decide +kernel
theorem dX9_takes_104 : decode cX9_takes 104 = .ok (.goto 4, 3) := by decide +kernel
theorem dX9_takes_107 : decode cX9_takes 107 = .ok (.iconst 5, 1) := by decide +kernel
theorem dX9_takes_108 : decode cX9_takes 108 = .ok (.ireturn, 1) := by decide +kernel
theorem dX9_takes_109 : decode cX9_takes 109 = .ok (.bipush 10, 2) := by decide +kernel
theorem dX9_takes_111 : decode cX9_takes 111 = .ok (.ireturn, 1) := by decide +kernel
theorem dX9_secondsOf_0 : decode cX9_secondsOf 0 = .ok (.aload_n 0, 1) := by decide +kernel
theorem dX9_secondsOf_1 : decode cX9_secondsOf 1 = .ok (.iconst 0, 1) := by decide +kernel
theorem dX9_secondsOf_2 : decode cX9_secondsOf 2 = .ok (.invokevirtual 88, 3) := by decide +kernel
theorem dX9_secondsOf_5 : decode cX9_secondsOf 5 = .ok (.ifCond .eq 8, 3) := by decide +kernel
theorem dX9_secondsOf_8 : decode cX9_secondsOf 8 = .ok (.bipush 8, 2) := by decide +kernel
theorem dX9_secondsOf_10 : decode cX9_secondsOf 10 = .ok (.goto 4, 3) := by decide +kernel
theorem dX9_secondsOf_13 : decode cX9_secondsOf 13 = .ok (.iconst 0, 1) := by decide +kernel
theorem dX9_secondsOf_14 : decode cX9_secondsOf 14 = .ok (.aload_n 0, 1) := by decide +kernel
theorem dX9_secondsOf_15 : decode cX9_secondsOf 15 = .ok (.iconst 2, 1) := by decide +kernel
theorem dX9_secondsOf_16 : decode cX9_secondsOf 16 = .ok (.invokevirtual 88, 3) := by decide +kernel
theorem dX9_secondsOf_19 : decode cX9_secondsOf 19 = .ok (.ifCond .eq 8, 3) := by decide +kernel
theorem dX9_secondsOf_22 : decode cX9_secondsOf 22 = .ok (.bipush 8, 2) := by decide +kernel
theorem dX9_secondsOf_24 : decode cX9_secondsOf 24 = .ok (.goto 4, 3) := by decide +kernel
theorem dX9_secondsOf_27 : decode cX9_secondsOf 27 = .ok (.iconst 0, 1) := by decide +kernel
theorem dX9_secondsOf_28 : decode cX9_secondsOf 28 = .ok (.iadd, 1) := by decide +kernel
theorem dX9_secondsOf_29 : decode cX9_secondsOf 29 = .ok (.istore_n 3, 1) := by decide +kernel
theorem dX9_secondsOf_30 : decode cX9_secondsOf 30 = .ok (.iload_n 2, 1) := by decide +kernel
theorem dX9_secondsOf_31 : decode cX9_secondsOf 31 = .ok (.iconst 1, 1) := by decide +kernel
theorem dX9_secondsOf_32 : decode cX9_secondsOf 32 = .ok (.if_icmp .ne 7, 3) := by decide +kernel
theorem dX9_secondsOf_35 : decode cX9_secondsOf 35 = .ok (.iload_n 3, 1) := by decide +kernel
theorem dX9_secondsOf_36 : decode cX9_secondsOf 36 = .ok (.goto 16, 3) := by decide +kernel
theorem dX9_secondsOf_39 : decode cX9_secondsOf 39 = .ok (.aload_n 0, 1) := by decide +kernel
theorem dX9_secondsOf_40 : decode cX9_secondsOf 40 = .ok (.iconst 1, 1) := by decide +kernel
theorem dX9_secondsOf_41 : decode cX9_secondsOf 41 = .ok (.invokevirtual 88, 3) := by decide +kernel
theorem dX9_secondsOf_44 : decode cX9_secondsOf 44 = .ok (.ifCond .eq 7, 3) := by decide +kernel
theorem dX9_secondsOf_47 : decode cX9_secondsOf 47 = .ok (.iconst 3, 1) := by decide +kernel
theorem dX9_secondsOf_48 : decode cX9_secondsOf 48 = .ok (.goto 4, 3) := by decide +kernel
theorem dX9_secondsOf_51 : decode cX9_secondsOf 51 = .ok (.iconst 0, 1) := by decide +kernel
theorem dX9_secondsOf_52 : decode cX9_secondsOf 52 = .ok (.istore 4, 2) := by decide +kernel
theorem dX9_secondsOf_54 : decode cX9_secondsOf 54 = .ok (.aload_n 0, 1) := by decide +kernel
theorem dX9_secondsOf_55 : decode cX9_secondsOf 55 = .ok (.iload_n 1, 1) := by decide +kernel
theorem dX9_secondsOf_56 : decode cX9_secondsOf 56 = .ok (.iload_n 2, 1) := by decide +kernel
theorem dX9_secondsOf_57 : decode cX9_secondsOf 57 = .ok (.invokevirtual 115, 3) := by decide +kernel
theorem dX9_secondsOf_60 : decode cX9_secondsOf 60 = .ok (.iconst 5, 1) := by decide +kernel
theorem dX9_secondsOf_61 : decode cX9_secondsOf 61 = .ok (.aload_n 0, 1) := by decide +kernel
theorem dX9_secondsOf_62 : decode cX9_secondsOf 62 = .ok (.iload_n 2, 1) := by decide +kernel
theorem dX9_secondsOf_63 : decode cX9_secondsOf 63 = .ok (.iconst 0, 1) := by decide +kernel
theorem dX9_secondsOf_64 : decode cX9_secondsOf 64 = .ok (.invokevirtual 63, 3) := by decide +kernel
theorem dX9_secondsOf_67 : decode cX9_secondsOf 67 = .ok (.imul, 1) := by decide +kernel
theorem dX9_secondsOf_68 : decode cX9_secondsOf 68 = .ok (.iadd, 1) := by decide +kernel
theorem dX9_secondsOf_69 : decode cX9_secondsOf 69 = .ok (.iconst 2, 1) := by decide +kernel
theorem dX9_secondsOf_70 : decode cX9_secondsOf 70 = .ok (.aload_n 0, 1) := by decide +kernel
theorem dX9_secondsOf_71 : decode cX9_secondsOf 71 = .ok (.iload_n 2, 1) := by decide +kernel
theorem dX9_secondsOf_72 : decode cX9_secondsOf 72 = .ok (.iconst 1, 1) := by decide +kernel
theorem dX9_secondsOf_73 : decode cX9_secondsOf 73 = .ok (.invokevirtual 63, 3) := by decide +kernel
theorem dX9_secondsOf_76 : decode cX9_secondsOf 76 = .ok (.imul, 1) := by decide +kernel
theorem dX9_secondsOf_77 : decode cX9_secondsOf 77 = .ok (.iadd, 1) := by decide +kernel
theorem dX9_secondsOf_78 : decode cX9_secondsOf 78 = .ok (.iconst 4, 1) := by decide +kernel
theorem dX9_secondsOf_79 : decode cX9_secondsOf 79 = .ok (.aload_n 0, 1) := by decide +kernel
theorem dX9_secondsOf_80 : decode cX9_secondsOf 80 = .ok (.iload_n 1, 1) := by decide +kernel
theorem dX9_secondsOf_81 : decode cX9_secondsOf 81 = .ok (.iconst 3, 1) := by decide +kernel
theorem dX9_secondsOf_82 : decode cX9_secondsOf 82 = .ok (.invokevirtual 94, 3) := by decide +kernel
theorem dX9_secondsOf_85 : decode cX9_secondsOf 85 = .ok (.imul, 1) := by decide +kernel
theorem dX9_secondsOf_86 : decode cX9_secondsOf 86 = .ok (.iadd, 1) := by decide +kernel
theorem dX9_secondsOf_87 : decode cX9_secondsOf 87 = .ok (.aload_n 0, 1) := by decide +kernel
theorem dX9_secondsOf_88 : decode cX9_secondsOf 88 = .ok (.getfield 7, 3) := by decide +kernel
theorem dX9_secondsOf_91 : decode cX9_secondsOf 91 = .ok (.iconst 3, 1) := by decide +kernel
theorem dX9_secondsOf_92 : decode cX9_secondsOf 92 = .ok (.iaload, 1) := by decide +kernel
theorem dX9_secondsOf_93 : decode cX9_secondsOf 93 = .ok (.iadd, 1) := by decide +kernel
theorem dX9_secondsOf_94 : decode cX9_secondsOf 94 = .ok (.iload 4, 2) := by decide +kernel
theorem dX9_secondsOf_96 : decode cX9_secondsOf 96 = .ok (.iadd, 1) := by decide +kernel
theorem dX9_secondsOf_97 : decode cX9_secondsOf 97 = .ok (.ireturn, 1) := by decide +kernel
theorem dX9_snugOf_0 : decode cX9_snugOf 0 = .ok (.bipush 9, 2) := by decide +kernel
theorem dX9_snugOf_2 : decode cX9_snugOf 2 = .ok (.aload_n 0, 1) := by decide +kernel
theorem dX9_snugOf_3 : decode cX9_snugOf 3 = .ok (.iload_n 2, 1) := by decide +kernel
theorem dX9_snugOf_4 : decode cX9_snugOf 4 = .ok (.iconst 0, 1) := by decide +kernel
theorem dX9_snugOf_5 : decode cX9_snugOf 5 = .ok (.invokevirtual 63, 3) := by decide +kernel
theorem dX9_snugOf_8 : decode cX9_snugOf 8 = .ok (.isub, 1) := by decide +kernel
theorem dX9_snugOf_9 : decode cX9_snugOf 9 = .ok (.istore_n 3, 1) := by decide +kernel
theorem dX9_snugOf_10 : decode cX9_snugOf 10 = .ok (.aload_n 0, 1) := by decide +kernel
theorem dX9_snugOf_11 : decode cX9_snugOf 11 = .ok (.iload_n 1, 1) := by decide +kernel
theorem dX9_snugOf_12 : decode cX9_snugOf 12 = .ok (.iconst 0, 1) := by decide +kernel
theorem dX9_snugOf_13 : decode cX9_snugOf 13 = .ok (.invokevirtual 94, 3) := by decide +kernel
theorem dX9_snugOf_16 : decode cX9_snugOf 16 = .ok (.tableswitch 103 1 5 #[36, 50, 65, 36, 86], 36) := by decide +kernel
theorem dX9_snugOf_52 : decode cX9_snugOf 52 = .ok (.iload_n 3, 1) := by decide +kernel
theorem dX9_snugOf_53 : decode cX9_snugOf 53 = .ok (.aload_n 0, 1) := by decide +kernel
theorem dX9_snugOf_54 : decode cX9_snugOf 54 = .ok (.iload_n 1, 1) := by decide +kernel
theorem dX9_snugOf_55 : decode cX9_snugOf 55 = .ok (.iconst 4, 1) := by decide +kernel
theorem dX9_snugOf_56 : decode cX9_snugOf 56 = .ok (.invokevirtual 94, 3) := by decide +kernel
theorem dX9_snugOf_59 : decode cX9_snugOf 59 = .ok (.iconst 2, 1) := by decide +kernel
theorem dX9_snugOf_60 : decode cX9_snugOf 60 = .ok (.idiv, 1) := by decide +kernel
theorem dX9_snugOf_61 : decode cX9_snugOf 61 = .ok (.isub, 1) := by decide +kernel
theorem dX9_snugOf_62 : decode cX9_snugOf 62 = .ok (.istore_n 3, 1) := by decide +kernel
theorem dX9_snugOf_63 : decode cX9_snugOf 63 = .ok (.goto 56, 3) := by decide +kernel
theorem dX9_snugOf_66 : decode cX9_snugOf 66 = .ok (.iload_n 3, 1) := by decide +kernel
theorem dX9_snugOf_67 : decode cX9_snugOf 67 = .ok (.aload_n 0, 1) := by decide +kernel
theorem dX9_snugOf_68 : decode cX9_snugOf 68 = .ok (.iload_n 1, 1) := by decide +kernel
theorem dX9_snugOf_69 : decode cX9_snugOf 69 = .ok (.iconst 1, 1) := by decide +kernel
theorem dX9_snugOf_70 : decode cX9_snugOf 70 = .ok (.invokevirtual 94, 3) := by decide +kernel
theorem dX9_snugOf_73 : decode cX9_snugOf 73 = .ok (.bipush 40, 2) := by decide +kernel
theorem dX9_snugOf_75 : decode cX9_snugOf 75 = .ok (.idiv, 1) := by decide +kernel
theorem dX9_snugOf_76 : decode cX9_snugOf 76 = .ok (.isub, 1) := by decide +kernel
theorem dX9_snugOf_77 : decode cX9_snugOf 77 = .ok (.istore_n 3, 1) := by decide +kernel
theorem dX9_snugOf_78 : decode cX9_snugOf 78 = .ok (.goto 41, 3) := by decide +kernel
theorem dX9_snugOf_81 : decode cX9_snugOf 81 = .ok (.iload_n 3, 1) := by decide +kernel
theorem dX9_snugOf_82 : decode cX9_snugOf 82 = .ok (.aload_n 0, 1) := by decide +kernel
theorem dX9_snugOf_83 : decode cX9_snugOf 83 = .ok (.iload_n 2, 1) := by decide +kernel
theorem dX9_snugOf_84 : decode cX9_snugOf 84 = .ok (.iconst 2, 1) := by decide +kernel
theorem dX9_snugOf_85 : decode cX9_snugOf 85 = .ok (.invokevirtual 63, 3) := by decide +kernel
theorem dX9_snugOf_88 : decode cX9_snugOf 88 = .ok (.iconst 1, 1) := by decide +kernel
theorem dX9_snugOf_89 : decode cX9_snugOf 89 = .ok (.if_icmp .ne 7, 3) := by decide +kernel
theorem dX9_snugOf_92 : decode cX9_snugOf 92 = .ok (.iconst 0, 1) := by decide +kernel
theorem dX9_snugOf_93 : decode cX9_snugOf 93 = .ok (.goto 4, 3) := by decide +kernel
theorem dX9_snugOf_96 : decode cX9_snugOf 96 = .ok (.iconst 4, 1) := by decide +kernel
theorem dX9_snugOf_97 : decode cX9_snugOf 97 = .ok (.isub, 1) := by decide +kernel
theorem dX9_snugOf_98 : decode cX9_snugOf 98 = .ok (.istore_n 3, 1) := by decide +kernel
theorem dX9_snugOf_99 : decode cX9_snugOf 99 = .ok (.goto 20, 3) := by decide +kernel
theorem dX9_snugOf_102 : decode cX9_snugOf 102 = .ok (.iload_n 3, 1) := by decide +kernel
theorem dX9_snugOf_103 : decode cX9_snugOf 103 = .ok (.aload_n 0, 1) := by decide +kernel
theorem dX9_snugOf_104 : decode cX9_snugOf 104 = .ok (.iload_n 1, 1) := by decide +kernel
theorem dX9_snugOf_105 : decode cX9_snugOf 105 = .ok (.iconst 1, 1) := by decide +kernel
theorem dX9_snugOf_106 : decode cX9_snugOf 106 = .ok (.invokevirtual 94, 3) := by decide +kernel
theorem dX9_snugOf_109 : decode cX9_snugOf 109 = .ok (.bipush 40, 2) := by decide +kernel
theorem dX9_snugOf_111 : decode cX9_snugOf 111 = .ok (.idiv, 1) := by decide +kernel
theorem dX9_snugOf_112 : decode cX9_snugOf 112 = .ok (.iconst 1, 1) := by decide +kernel
theorem dX9_snugOf_113 : decode cX9_snugOf 113 = .ok (.iadd, 1) := by decide +kernel
theorem dX9_snugOf_114 : decode cX9_snugOf 114 = .ok (.isub, 1) := by decide +kernel
theorem dX9_snugOf_115 : decode cX9_snugOf 115 = .ok (.istore_n 3, 1) := by decide +kernel
theorem dX9_snugOf_116 : decode cX9_snugOf 116 = .ok (.goto 3, 3) := by decide +kernel
theorem dX9_snugOf_119 : decode cX9_snugOf 119 = .ok (.iload_n 3, 1) := by decide +kernel
theorem dX9_snugOf_120 : decode cX9_snugOf 120 = .ok (.iconst 3, 1) := by decide +kernel
theorem dX9_snugOf_121 : decode cX9_snugOf 121 = .ok (.aload_n 0, 1) := by decide +kernel
theorem dX9_snugOf_122 : decode cX9_snugOf 122 = .ok (.iload_n 1, 1) := by decide +kernel
theorem dX9_snugOf_123 : decode cX9_snugOf 123 = .ok (.iconst 3, 1) := by decide +kernel
theorem dX9_snugOf_124 : decode cX9_snugOf 124 = .ok (.invokevirtual 94, 3) := by decide +kernel
theorem dX9_snugOf_127 : decode cX9_snugOf 127 = .ok (.imul, 1) := by decide +kernel
theorem dX9_snugOf_128 : decode cX9_snugOf 128 = .ok (.isub, 1) := by decide +kernel
theorem dX9_snugOf_129 : decode cX9_snugOf 129 = .ok (.istore_n 3, 1) := by decide +kernel
theorem dX9_snugOf_130 : decode cX9_snugOf 130 = .ok (.iload_n 3, 1) := by decide +kernel
theorem dX9_snugOf_131 : decode cX9_snugOf 131 = .ok (.ifCond .ge 7, 3) := by decide +kernel
theorem dX9_snugOf_134 : decode cX9_snugOf 134 = .ok (.iconst 0, 1) := by decide +kernel
theorem dX9_snugOf_135 : decode cX9_snugOf 135 = .ok (.goto 4, 3) := by decide +kernel
theorem dX9_snugOf_138 : decode cX9_snugOf 138 = .ok (.iload_n 3, 1) := by decide +kernel
theorem dX9_snugOf_139 : decode cX9_snugOf 139 = .ok (.ireturn, 1) := by decide +kernel
theorem dX9_seconds_0 : decode cX9_seconds 0 = .ok (.aload_n 0, 1) := by decide +kernel
theorem dX9_seconds_1 : decode cX9_seconds 1 = .ok (.iload_n 1, 1) := by decide +kernel
theorem dX9_seconds_2 : decode cX9_seconds 2 = .ok (.invokevirtual 100, 3) := by decide +kernel
theorem dX9_seconds_5 : decode cX9_seconds 5 = .ok (.ifCond .eq 19, 3) := by decide +kernel
theorem dX9_seconds_8 : decode cX9_seconds 8 = .ok (.iload_n 2, 1) := by decide +kernel
theorem dX9_seconds_9 : decode cX9_seconds 9 = .ok (.invokestatic 68, 3) := by decide +kernel
theorem dX9_seconds_12 : decode cX9_seconds 12 = .ok (.ifCond .eq 12, 3) := by decide +kernel
theorem dX9_seconds_15 : decode cX9_seconds 15 = .ok (.aload_n 0, 1) := by decide +kernel
theorem dX9_seconds_16 : decode cX9_seconds 16 = .ok (.iload_n 1, 1) := by decide +kernel
theorem dX9_seconds_17 : decode cX9_seconds 17 = .ok (.iload_n 2, 1) := by decide +kernel
theorem dX9_seconds_18 : decode cX9_seconds 18 = .ok (.invokevirtual 118, 3) := by decide +kernel
theorem dX9_seconds_21 : decode cX9_seconds 21 = .ok (.goto 9, 3) := by decide +kernel
theorem dX9_seconds_24 : decode cX9_seconds 24 = .ok (.aload_n 0, 1) := by decide +kernel
theorem dX9_seconds_25 : decode cX9_seconds 25 = .ok (.ldc 51, 2) := by decide +kernel
theorem dX9_seconds_27 : decode cX9_seconds 27 = .ok (.invokevirtual 75, 3) := by decide +kernel
theorem dX9_seconds_30 : decode cX9_seconds 30 = .ok (.ireturn, 1) := by decide +kernel
theorem dX9_snug_0 : decode cX9_snug 0 = .ok (.aload_n 0, 1) := by decide +kernel
theorem dX9_snug_1 : decode cX9_snug 1 = .ok (.iload_n 1, 1) := by decide +kernel
theorem dX9_snug_2 : decode cX9_snug 2 = .ok (.invokevirtual 100, 3) := by decide +kernel
theorem dX9_snug_5 : decode cX9_snug 5 = .ok (.ifCond .eq 19, 3) := by decide +kernel
theorem dX9_snug_8 : decode cX9_snug 8 = .ok (.iload_n 2, 1) := by decide +kernel
theorem dX9_snug_9 : decode cX9_snug 9 = .ok (.invokestatic 68, 3) := by decide +kernel
theorem dX9_snug_12 : decode cX9_snug 12 = .ok (.ifCond .eq 12, 3) := by decide +kernel
theorem dX9_snug_15 : decode cX9_snug 15 = .ok (.aload_n 0, 1) := by decide +kernel
theorem dX9_snug_16 : decode cX9_snug 16 = .ok (.iload_n 1, 1) := by decide +kernel
theorem dX9_snug_17 : decode cX9_snug 17 = .ok (.iload_n 2, 1) := by decide +kernel
theorem dX9_snug_18 : decode cX9_snug 18 = .ok (.invokevirtual 121, 3) := by decide +kernel
theorem dX9_snug_21 : decode cX9_snug 21 = .ok (.goto 9, 3) := by decide +kernel
theorem dX9_snug_24 : decode cX9_snug 24 = .ok (.aload_n 0, 1) := by decide +kernel
theorem dX9_snug_25 : decode cX9_snug 25 = .ok (.ldc 51, 2) := by decide +kernel
theorem dX9_snug_27 : decode cX9_snug 27 = .ok (.invokevirtual 75, 3) := by decide +kernel
theorem dX9_snug_30 : decode cX9_snug 30 = .ok (.ireturn, 1) := by decide +kernel
theorem dX9_heldTo_0 : decode cX9_heldTo 0 = .ok (.iload_n 0, 1) := by decide +kernel
theorem dX9_heldTo_1 : decode cX9_heldTo 1 = .ok (.iload_n 1, 1) := by decide +kernel
theorem dX9_heldTo_2 : decode cX9_heldTo 2 = .ok (.if_icmp .le 7, 3) := by decide +kernel
theorem dX9_heldTo_5 : decode cX9_heldTo 5 = .ok (.iload_n 1, 1) := by decide +kernel
theorem dX9_heldTo_6 : decode cX9_heldTo 6 = .ok (.goto 4, 3) := by decide +kernel
theorem dX9_heldTo_9 : decode cX9_heldTo 9 = .ok (.iload_n 0, 1) := by decide +kernel
theorem dX9_heldTo_10 : decode cX9_heldTo 10 = .ok (.ireturn, 1) := by decide +kernel
theorem dX9_clicks_0 : decode cX9_clicks 0 = .ok (.aload_n 0, 1) := by decide +kernel
theorem dX9_clicks_1 : decode cX9_clicks 1 = .ok (.iload_n 1, 1) := by decide +kernel
theorem dX9_clicks_2 : decode cX9_clicks 2 = .ok (.iload_n 2, 1) := by decide +kernel
theorem dX9_clicks_3 : decode cX9_clicks 3 = .ok (.invokevirtual 118, 3) := by decide +kernel
theorem dX9_clicks_6 : decode cX9_clicks 6 = .ok (.istore_n 3, 1) := by decide +kernel
theorem dX9_clicks_7 : decode cX9_clicks 7 = .ok (.aload_n 0, 1) := by decide +kernel
theorem dX9_clicks_8 : decode cX9_clicks 8 = .ok (.getfield 7, 3) := by decide +kernel
theorem dX9_clicks_11 : decode cX9_clicks 11 = .ok (.iconst 2, 1) := by decide +kernel
theorem dX9_clicks_12 : decode cX9_clicks 12 = .ok (.aload_n 0, 1) := by decide +kernel
theorem dX9_clicks_13 : decode cX9_clicks 13 = .ok (.getfield 7, 3) := by decide +kernel
theorem dX9_clicks_16 : decode cX9_clicks 16 = .ok (.iconst 2, 1) := by decide +kernel
theorem dX9_clicks_17 : decode cX9_clicks 17 = .ok (.iaload, 1) := by decide +kernel
theorem dX9_clicks_18 : decode cX9_clicks 18 = .ok (.iload_n 3, 1) := by decide +kernel
theorem dX9_clicks_19 : decode cX9_clicks 19 = .ok (.iadd, 1) := by decide +kernel
theorem dX9_clicks_20 : decode cX9_clicks 20 = .ok (.ldc 124, 2) := by decide +kernel
theorem dX9_clicks_22 : decode cX9_clicks 22 = .ok (.invokestatic 125, 3) := by decide +kernel
theorem dX9_clicks_25 : decode cX9_clicks 25 = .ok (.iastore, 1) := by decide +kernel
theorem dX9_clicks_26 : decode cX9_clicks 26 = .ok (.aload_n 0, 1) := by decide +kernel
theorem dX9_clicks_27 : decode cX9_clicks 27 = .ok (.getfield 7, 3) := by decide +kernel
theorem dX9_clicks_30 : decode cX9_clicks 30 = .ok (.iload_n 1, 1) := by decide +kernel
theorem dX9_clicks_31 : decode cX9_clicks 31 = .ok (.iconst 5, 1) := by decide +kernel
theorem dX9_clicks_32 : decode cX9_clicks 32 = .ok (.invokestatic 60, 3) := by decide +kernel
theorem dX9_clicks_35 : decode cX9_clicks 35 = .ok (.aload_n 0, 1) := by decide +kernel
theorem dX9_clicks_36 : decode cX9_clicks 36 = .ok (.iload_n 1, 1) := by decide +kernel
theorem dX9_clicks_37 : decode cX9_clicks 37 = .ok (.iload_n 2, 1) := by decide +kernel
theorem dX9_clicks_38 : decode cX9_clicks 38 = .ok (.invokevirtual 121, 3) := by decide +kernel
theorem dX9_clicks_41 : decode cX9_clicks 41 = .ok (.iastore, 1) := by decide +kernel
theorem dX9_clicks_42 : decode cX9_clicks 42 = .ok (.aload_n 0, 1) := by decide +kernel
theorem dX9_clicks_43 : decode cX9_clicks 43 = .ok (.getfield 7, 3) := by decide +kernel
theorem dX9_clicks_46 : decode cX9_clicks 46 = .ok (.iload_n 2, 1) := by decide +kernel
theorem dX9_clicks_47 : decode cX9_clicks 47 = .ok (.iconst 3, 1) := by decide +kernel
theorem dX9_clicks_48 : decode cX9_clicks 48 = .ok (.invokestatic 47, 3) := by decide +kernel
theorem dX9_clicks_51 : decode cX9_clicks 51 = .ok (.aload_n 0, 1) := by decide +kernel
theorem dX9_clicks_52 : decode cX9_clicks 52 = .ok (.iload_n 2, 1) := by decide +kernel
theorem dX9_clicks_53 : decode cX9_clicks 53 = .ok (.iconst 3, 1) := by decide +kernel
theorem dX9_clicks_54 : decode cX9_clicks 54 = .ok (.invokevirtual 63, 3) := by decide +kernel
theorem dX9_clicks_57 : decode cX9_clicks 57 = .ok (.iconst 1, 1) := by decide +kernel
theorem dX9_clicks_58 : decode cX9_clicks 58 = .ok (.iadd, 1) := by decide +kernel
theorem dX9_clicks_59 : decode cX9_clicks 59 = .ok (.sipush 9999, 3) := by decide +kernel
theorem dX9_clicks_62 : decode cX9_clicks 62 = .ok (.invokestatic 125, 3) := by decide +kernel
theorem dX9_clicks_65 : decode cX9_clicks 65 = .ok (.iastore, 1) := by decide +kernel
theorem dX9_clicks_66 : decode cX9_clicks 66 = .ok (.aload_n 0, 1) := by decide +kernel
theorem dX9_clicks_67 : decode cX9_clicks 67 = .ok (.getfield 7, 3) := by decide +kernel
theorem dX9_clicks_70 : decode cX9_clicks 70 = .ok (.iload_n 2, 1) := by decide +kernel
theorem dX9_clicks_71 : decode cX9_clicks 71 = .ok (.iconst 4, 1) := by decide +kernel
theorem dX9_clicks_72 : decode cX9_clicks 72 = .ok (.invokestatic 47, 3) := by decide +kernel
theorem dX9_clicks_75 : decode cX9_clicks 75 = .ok (.iload_n 1, 1) := by decide +kernel
theorem dX9_clicks_76 : decode cX9_clicks 76 = .ok (.iastore, 1) := by decide +kernel
theorem dX9_clicks_77 : decode cX9_clicks 77 = .ok (.aload_n 0, 1) := by decide +kernel
theorem dX9_clicks_78 : decode cX9_clicks 78 = .ok (.iload_n 1, 1) := by decide +kernel
theorem dX9_clicks_79 : decode cX9_clicks 79 = .ok (.iconst 0, 1) := by decide +kernel
theorem dX9_clicks_80 : decode cX9_clicks 80 = .ok (.invokevirtual 94, 3) := by decide +kernel
theorem dX9_clicks_83 : decode cX9_clicks 83 = .ok (.iconst 1, 1) := by decide +kernel
theorem dX9_clicks_84 : decode cX9_clicks 84 = .ok (.invokestatic 110, 3) := by decide +kernel
theorem dX9_clicks_87 : decode cX9_clicks 87 = .ok (.ifCond .eq 26, 3) := by decide +kernel
theorem dX9_clicks_90 : decode cX9_clicks 90 = .ok (.aload_n 0, 1) := by decide +kernel
theorem dX9_clicks_91 : decode cX9_clicks 91 = .ok (.getfield 7, 3) := by decide +kernel
theorem dX9_clicks_94 : decode cX9_clicks 94 = .ok (.iload_n 1, 1) := by decide +kernel
theorem dX9_clicks_95 : decode cX9_clicks 95 = .ok (.iconst 4, 1) := by decide +kernel
theorem dX9_clicks_96 : decode cX9_clicks 96 = .ok (.invokestatic 60, 3) := by decide +kernel
theorem dX9_clicks_99 : decode cX9_clicks 99 = .ok (.aload_n 0, 1) := by decide +kernel
theorem dX9_clicks_100 : decode cX9_clicks 100 = .ok (.iload_n 1, 1) := by decide +kernel
theorem dX9_clicks_101 : decode cX9_clicks 101 = .ok (.iconst 4, 1) := by decide +kernel
theorem dX9_clicks_102 : decode cX9_clicks 102 = .ok (.invokevirtual 94, 3) := by decide +kernel
theorem dX9_clicks_105 : decode cX9_clicks 105 = .ok (.iconst 1, 1) := by decide +kernel
theorem dX9_clicks_106 : decode cX9_clicks 106 = .ok (.iadd, 1) := by decide +kernel
theorem dX9_clicks_107 : decode cX9_clicks 107 = .ok (.bipush 9, 2) := by decide +kernel
theorem dX9_clicks_109 : decode cX9_clicks 109 = .ok (.invokestatic 125, 3) := by decide +kernel
theorem dX9_clicks_112 : decode cX9_clicks 112 = .ok (.iastore, 1) := by decide +kernel
theorem dX9_clicks_113 : decode cX9_clicks 113 = .ok (.iload_n 3, 1) := by decide +kernel
theorem dX9_clicks_114 : decode cX9_clicks 114 = .ok (.ireturn, 1) := by decide +kernel
theorem dX9_click_0 : decode cX9_click 0 = .ok (.aload_n 0, 1) := by decide +kernel
theorem dX9_click_1 : decode cX9_click 1 = .ok (.iload_n 1, 1) := by decide +kernel
theorem dX9_click_2 : decode cX9_click 2 = .ok (.invokevirtual 100, 3) := by decide +kernel
theorem dX9_click_5 : decode cX9_click 5 = .ok (.ifCond .eq 10, 3) := by decide +kernel
theorem dX9_click_8 : decode cX9_click 8 = .ok (.iload_n 2, 1) := by decide +kernel
theorem dX9_click_9 : decode cX9_click 9 = .ok (.invokestatic 68, 3) := by decide +kernel
theorem dX9_click_12 : decode cX9_click 12 = .ok (.ifCond .ne 10, 3) := by decide +kernel
theorem dX9_click_15 : decode cX9_click 15 = .ok (.aload_n 0, 1) := by decide +kernel
theorem dX9_click_16 : decode cX9_click 16 = .ok (.ldc 51, 2) := by decide +kernel
theorem dX9_click_18 : decode cX9_click 18 = .ok (.invokevirtual 75, 3) := by decide +kernel
theorem dX9_click_21 : decode cX9_click 21 = .ok (.ireturn, 1) := by decide +kernel
theorem dX9_click_22 : decode cX9_click 22 = .ok (.aload_n 0, 1) := by decide +kernel
theorem dX9_click_23 : decode cX9_click 23 = .ok (.iload_n 1, 1) := by decide +kernel
theorem dX9_click_24 : decode cX9_click 24 = .ok (.invokevirtual 91, 3) := by decide +kernel
theorem dX9_click_27 : decode cX9_click 27 = .ok (.ifCond .ge 11, 3) := by decide +kernel
theorem dX9_click_30 : decode cX9_click 30 = .ok (.aload_n 0, 1) := by decide +kernel
theorem dX9_click_31 : decode cX9_click 31 = .ok (.iload_n 2, 1) := by decide +kernel
theorem dX9_click_32 : decode cX9_click 32 = .ok (.invokevirtual 88, 3) := by decide +kernel
theorem dX9_click_35 : decode cX9_click 35 = .ok (.ifCond .eq 10, 3) := by decide +kernel
theorem dX9_click_38 : decode cX9_click 38 = .ok (.aload_n 0, 1) := by decide +kernel
theorem dX9_click_39 : decode cX9_click 39 = .ok (.ldc 128, 2) := by decide +kernel
theorem dX9_click_41 : decode cX9_click 41 = .ok (.invokevirtual 75, 3) := by decide +kernel
theorem dX9_click_44 : decode cX9_click 44 = .ok (.ireturn, 1) := by decide +kernel
theorem dX9_click_45 : decode cX9_click 45 = .ok (.aload_n 0, 1) := by decide +kernel
theorem dX9_click_46 : decode cX9_click 46 = .ok (.iload_n 1, 1) := by decide +kernel
theorem dX9_click_47 : decode cX9_click 47 = .ok (.iload_n 2, 1) := by decide +kernel
theorem dX9_click_48 : decode cX9_click 48 = .ok (.invokevirtual 129, 3) := by decide +kernel
theorem dX9_click_51 : decode cX9_click 51 = .ok (.istore_n 3, 1) := by decide +kernel
theorem dX9_click_52 : decode cX9_click 52 = .ok (.aload_n 0, 1) := by decide +kernel
theorem dX9_click_53 : decode cX9_click 53 = .ok (.iload_n 1, 1) := by decide +kernel
theorem dX9_click_54 : decode cX9_click 54 = .ok (.iconst 5, 1) := by decide +kernel
theorem dX9_click_55 : decode cX9_click 55 = .ok (.invokevirtual 94, 3) := by decide +kernel
theorem dX9_click_58 : decode cX9_click 58 = .ok (.ireturn, 1) := by decide +kernel
theorem dX9_goesOut_0 : decode cX9_goesOut 0 = .ok (.aload_n 0, 1) := by decide +kernel
theorem dX9_goesOut_1 : decode cX9_goesOut 1 = .ok (.getfield 7, 3) := by decide +kernel
theorem dX9_goesOut_4 : decode cX9_goesOut 4 = .ok (.aload_n 0, 1) := by decide +kernel
theorem dX9_goesOut_5 : decode cX9_goesOut 5 = .ok (.iload_n 1, 1) := by decide +kernel
theorem dX9_goesOut_6 : decode cX9_goesOut 6 = .ok (.iconst 4, 1) := by decide +kernel
theorem dX9_goesOut_7 : decode cX9_goesOut 7 = .ok (.invokevirtual 63, 3) := by decide +kernel
theorem dX9_goesOut_10 : decode cX9_goesOut 10 = .ok (.iconst 5, 1) := by decide +kernel
theorem dX9_goesOut_11 : decode cX9_goesOut 11 = .ok (.invokestatic 60, 3) := by decide +kernel
theorem dX9_goesOut_14 : decode cX9_goesOut 14 = .ok (.iconst 0, 1) := by decide +kernel
theorem dX9_goesOut_15 : decode cX9_goesOut 15 = .ok (.iastore, 1) := by decide +kernel
theorem dX9_goesOut_16 : decode cX9_goesOut 16 = .ok (.aload_n 0, 1) := by decide +kernel
theorem dX9_goesOut_17 : decode cX9_goesOut 17 = .ok (.getfield 7, 3) := by decide +kernel
theorem dX9_goesOut_20 : decode cX9_goesOut 20 = .ok (.iload_n 1, 1) := by decide +kernel
theorem dX9_goesOut_21 : decode cX9_goesOut 21 = .ok (.iconst 4, 1) := by decide +kernel
theorem dX9_goesOut_22 : decode cX9_goesOut 22 = .ok (.invokestatic 47, 3) := by decide +kernel
theorem dX9_goesOut_25 : decode cX9_goesOut 25 = .ok (.iconst (-1), 1) := by decide +kernel
theorem dX9_goesOut_26 : decode cX9_goesOut 26 = .ok (.iastore, 1) := by decide +kernel
theorem dX9_goesOut_27 : decode cX9_goesOut 27 = .ok (.return_, 1) := by decide +kernel
theorem dX9_letOut_0 : decode cX9_letOut 0 = .ok (.aload_n 0, 1) := by decide +kernel
theorem dX9_letOut_1 : decode cX9_letOut 1 = .ok (.iload_n 1, 1) := by decide +kernel
theorem dX9_letOut_2 : decode cX9_letOut 2 = .ok (.invokevirtual 100, 3) := by decide +kernel
theorem dX9_letOut_5 : decode cX9_letOut 5 = .ok (.ifCond .ne 10, 3) := by decide +kernel
theorem dX9_letOut_8 : decode cX9_letOut 8 = .ok (.aload_n 0, 1) := by decide +kernel
theorem dX9_letOut_9 : decode cX9_letOut 9 = .ok (.ldc 51, 2) := by decide +kernel
theorem dX9_letOut_11 : decode cX9_letOut 11 = .ok (.invokevirtual 75, 3) := by decide +kernel
theorem dX9_letOut_14 : decode cX9_letOut 14 = .ok (.ireturn, 1) := by decide +kernel
theorem dX9_letOut_15 : decode cX9_letOut 15 = .ok (.aload_n 0, 1) := by decide +kernel
theorem dX9_letOut_16 : decode cX9_letOut 16 = .ok (.iload_n 1, 1) := by decide +kernel
theorem dX9_letOut_17 : decode cX9_letOut 17 = .ok (.invokevirtual 91, 3) := by decide +kernel
theorem dX9_letOut_20 : decode cX9_letOut 20 = .ok (.istore_n 2, 1) := by decide +kernel
theorem dX9_letOut_21 : decode cX9_letOut 21 = .ok (.iload_n 2, 1) := by decide +kernel
theorem dX9_letOut_22 : decode cX9_letOut 22 = .ok (.ifCond .ge 10, 3) := by decide +kernel
theorem dX9_letOut_25 : decode cX9_letOut 25 = .ok (.aload_n 0, 1) := by decide +kernel
theorem dX9_letOut_26 : decode cX9_letOut 26 = .ok (.ldc 128, 2) := by decide +kernel
theorem dX9_letOut_28 : decode cX9_letOut 28 = .ok (.invokevirtual 75, 3) := by decide +kernel
theorem dX9_letOut_31 : decode cX9_letOut 31 = .ok (.ireturn, 1) := by decide +kernel
theorem dX9_letOut_32 : decode cX9_letOut 32 = .ok (.aload_n 0, 1) := by decide +kernel
theorem dX9_letOut_33 : decode cX9_letOut 33 = .ok (.iload_n 2, 1) := by decide +kernel
theorem dX9_letOut_34 : decode cX9_letOut 34 = .ok (.invokevirtual 132, 3) := by decide +kernel
theorem dX9_letOut_37 : decode cX9_letOut 37 = .ok (.iload_n 2, 1) := by decide +kernel
theorem dX9_letOut_38 : decode cX9_letOut 38 = .ok (.ireturn, 1) := by decide +kernel
theorem dX9_bribed_0 : decode cX9_bribed 0 = .ok (.aload_n 0, 1) := by decide +kernel
theorem dX9_bribed_1 : decode cX9_bribed 1 = .ok (.iload_n 1, 1) := by decide +kernel
theorem dX9_bribed_2 : decode cX9_bribed 2 = .ok (.invokevirtual 91, 3) := by decide +kernel
theorem dX9_bribed_5 : decode cX9_bribed 5 = .ok (.istore_n 2, 1) := by decide +kernel
theorem dX9_bribed_6 : decode cX9_bribed 6 = .ok (.aload_n 0, 1) := by decide +kernel
theorem dX9_bribed_7 : decode cX9_bribed 7 = .ok (.getfield 7, 3) := by decide +kernel
theorem dX9_bribed_10 : decode cX9_bribed 10 = .ok (.iload_n 1, 1) := by decide +kernel
theorem dX9_bribed_11 : decode cX9_bribed 11 = .ok (.iconst 2, 1) := by decide +kernel
theorem dX9_bribed_12 : decode cX9_bribed 12 = .ok (.invokestatic 60, 3) := by decide +kernel
theorem dX9_bribed_15 : decode cX9_bribed 15 = .ok (.aload_n 0, 1) := by decide +kernel
theorem dX9_bribed_16 : decode cX9_bribed 16 = .ok (.iload_n 1, 1) := by decide +kernel
theorem dX9_bribed_17 : decode cX9_bribed 17 = .ok (.iconst 2, 1) := by decide +kernel
theorem dX9_bribed_18 : decode cX9_bribed 18 = .ok (.invokevirtual 94, 3) := by decide +kernel
theorem dX9_bribed_21 : decode cX9_bribed 21 = .ok (.iconst 3, 1) := by decide +kernel
theorem dX9_bribed_22 : decode cX9_bribed 22 = .ok (.iadd, 1) := by decide +kernel
theorem dX9_bribed_23 : decode cX9_bribed 23 = .ok (.bipush 9, 2) := by decide +kernel
theorem dX9_bribed_25 : decode cX9_bribed 25 = .ok (.invokestatic 125, 3) := by decide +kernel
theorem dX9_bribed_28 : decode cX9_bribed 28 = .ok (.iastore, 1) := by decide +kernel
theorem dX9_bribed_29 : decode cX9_bribed 29 = .ok (.iload_n 2, 1) := by decide +kernel
theorem dX9_bribed_30 : decode cX9_bribed 30 = .ok (.ifCond .lt 26, 3) := by decide +kernel
theorem dX9_bribed_33 : decode cX9_bribed 33 = .ok (.aload_n 0, 1) := by decide +kernel
theorem dX9_bribed_34 : decode cX9_bribed 34 = .ok (.getfield 7, 3) := by decide +kernel
theorem dX9_bribed_37 : decode cX9_bribed 37 = .ok (.iload_n 2, 1) := by decide +kernel
theorem dX9_bribed_38 : decode cX9_bribed 38 = .ok (.iconst 1, 1) := by decide +kernel
theorem dX9_bribed_39 : decode cX9_bribed 39 = .ok (.invokestatic 47, 3) := by decide +kernel
theorem dX9_bribed_42 : decode cX9_bribed 42 = .ok (.aload_n 0, 1) := by decide +kernel
theorem dX9_bribed_43 : decode cX9_bribed 43 = .ok (.iload_n 2, 1) := by decide +kernel
theorem dX9_bribed_44 : decode cX9_bribed 44 = .ok (.iconst 1, 1) := by decide +kernel
theorem dX9_bribed_45 : decode cX9_bribed 45 = .ok (.invokevirtual 63, 3) := by decide +kernel
theorem dX9_bribed_48 : decode cX9_bribed 48 = .ok (.iconst 1, 1) := by decide +kernel
theorem dX9_bribed_49 : decode cX9_bribed 49 = .ok (.iadd, 1) := by decide +kernel
theorem dX9_bribed_50 : decode cX9_bribed 50 = .ok (.bipush 9, 2) := by decide +kernel
theorem dX9_bribed_52 : decode cX9_bribed 52 = .ok (.invokestatic 125, 3) := by decide +kernel
theorem dX9_bribed_55 : decode cX9_bribed 55 = .ok (.iastore, 1) := by decide +kernel
theorem dX9_bribed_56 : decode cX9_bribed 56 = .ok (.return_, 1) := by decide +kernel
theorem dX9_bribe_0 : decode cX9_bribe 0 = .ok (.aload_n 0, 1) := by decide +kernel
theorem dX9_bribe_1 : decode cX9_bribe 1 = .ok (.iload_n 1, 1) := by decide +kernel
theorem dX9_bribe_2 : decode cX9_bribe 2 = .ok (.invokevirtual 100, 3) := by decide +kernel
theorem dX9_bribe_5 : decode cX9_bribe 5 = .ok (.ifCond .ne 10, 3) := by decide +kernel
theorem dX9_bribe_8 : decode cX9_bribe 8 = .ok (.aload_n 0, 1) := by decide +kernel
theorem dX9_bribe_9 : decode cX9_bribe 9 = .ok (.ldc 51, 2) := by decide +kernel
theorem dX9_bribe_11 : decode cX9_bribe 11 = .ok (.invokevirtual 75, 3) := by decide +kernel
theorem dX9_bribe_14 : decode cX9_bribe 14 = .ok (.ireturn, 1) := by decide +kernel
theorem dX9_bribe_15 : decode cX9_bribe 15 = .ok (.aload_n 0, 1) := by decide +kernel
theorem dX9_bribe_16 : decode cX9_bribe 16 = .ok (.iload_n 1, 1) := by decide +kernel
theorem dX9_bribe_17 : decode cX9_bribe 17 = .ok (.invokevirtual 136, 3) := by decide +kernel
theorem dX9_bribe_20 : decode cX9_bribe 20 = .ok (.aload_n 0, 1) := by decide +kernel
theorem dX9_bribe_21 : decode cX9_bribe 21 = .ok (.iload_n 1, 1) := by decide +kernel
theorem dX9_bribe_22 : decode cX9_bribe 22 = .ok (.iconst 2, 1) := by decide +kernel
theorem dX9_bribe_23 : decode cX9_bribe 23 = .ok (.invokevirtual 94, 3) := by decide +kernel
theorem dX9_bribe_26 : decode cX9_bribe 26 = .ok (.ireturn, 1) := by decide +kernel
theorem dX9_minute_0 : decode cX9_minute 0 = .ok (.iconst 0, 1) := by decide +kernel
theorem dX9_minute_1 : decode cX9_minute 1 = .ok (.istore_n 1, 1) := by decide +kernel
theorem dX9_minute_2 : decode cX9_minute 2 = .ok (.iload_n 1, 1) := by decide +kernel
theorem dX9_minute_3 : decode cX9_minute 3 = .ok (.iconst 3, 1) := by decide +kernel
theorem dX9_minute_4 : decode cX9_minute 4 = .ok (.if_icmp .ge 56, 3) := by decide +kernel
theorem dX9_minute_7 : decode cX9_minute 7 = .ok (.aload_n 0, 1) := by decide +kernel
theorem dX9_minute_8 : decode cX9_minute 8 = .ok (.iload_n 1, 1) := by decide +kernel
theorem dX9_minute_9 : decode cX9_minute 9 = .ok (.invokevirtual 88, 3) := by decide +kernel
theorem dX9_minute_12 : decode cX9_minute 12 = .ok (.ifCond .eq 42, 3) := by decide +kernel
theorem dX9_minute_15 : decode cX9_minute 15 = .ok (.aload_n 0, 1) := by decide +kernel
theorem dX9_minute_16 : decode cX9_minute 16 = .ok (.iload_n 1, 1) := by decide +kernel
theorem dX9_minute_17 : decode cX9_minute 17 = .ok (.iconst 4, 1) := by decide +kernel
theorem dX9_minute_18 : decode cX9_minute 18 = .ok (.invokevirtual 63, 3) := by decide +kernel
theorem dX9_minute_21 : decode cX9_minute 21 = .ok (.istore_n 2, 1) := by decide +kernel
theorem dX9_minute_22 : decode cX9_minute 22 = .ok (.aload_n 0, 1) := by decide +kernel
theorem dX9_minute_23 : decode cX9_minute 23 = .ok (.iload_n 2, 1) := by decide +kernel
theorem dX9_minute_24 : decode cX9_minute 24 = .ok (.iconst 2, 1) := by decide +kernel
theorem dX9_minute_25 : decode cX9_minute 25 = .ok (.invokevirtual 94, 3) := by decide +kernel
theorem dX9_minute_28 : decode cX9_minute 28 = .ok (.aload_n 0, 1) := by decide +kernel
theorem dX9_minute_29 : decode cX9_minute 29 = .ok (.iload_n 2, 1) := by decide +kernel
theorem dX9_minute_30 : decode cX9_minute 30 = .ok (.invokevirtual 105, 3) := by decide +kernel
theorem dX9_minute_33 : decode cX9_minute 33 = .ok (.isub, 1) := by decide +kernel
theorem dX9_minute_34 : decode cX9_minute 34 = .ok (.istore_n 3, 1) := by decide +kernel
theorem dX9_minute_35 : decode cX9_minute 35 = .ok (.aload_n 0, 1) := by decide +kernel
theorem dX9_minute_36 : decode cX9_minute 36 = .ok (.getfield 7, 3) := by decide +kernel
theorem dX9_minute_39 : decode cX9_minute 39 = .ok (.iload_n 2, 1) := by decide +kernel
theorem dX9_minute_40 : decode cX9_minute 40 = .ok (.iconst 2, 1) := by decide +kernel
theorem dX9_minute_41 : decode cX9_minute 41 = .ok (.invokestatic 60, 3) := by decide +kernel
theorem dX9_minute_44 : decode cX9_minute 44 = .ok (.iload_n 3, 1) := by decide +kernel
theorem dX9_minute_45 : decode cX9_minute 45 = .ok (.ifCond .ge 7, 3) := by decide +kernel
theorem dX9_minute_48 : decode cX9_minute 48 = .ok (.iconst 0, 1) := by decide +kernel
theorem dX9_minute_49 : decode cX9_minute 49 = .ok (.goto 4, 3) := by decide +kernel
theorem dX9_minute_52 : decode cX9_minute 52 = .ok (.iload_n 3, 1) := by decide +kernel
theorem dX9_minute_53 : decode cX9_minute 53 = .ok (.iastore, 1) := by decide +kernel
theorem dX9_minute_54 : decode cX9_minute 54 = .ok (.iinc 1 1, 3) := by decide +kernel
theorem dX9_minute_57 : decode cX9_minute 57 = .ok (.goto (-55), 3) := by decide +kernel
theorem dX9_minute_60 : decode cX9_minute 60 = .ok (.iconst 0, 1) := by decide +kernel
theorem dX9_minute_61 : decode cX9_minute 61 = .ok (.istore_n 1, 1) := by decide +kernel
theorem dX9_minute_62 : decode cX9_minute 62 = .ok (.iload_n 1, 1) := by decide +kernel
theorem dX9_minute_63 : decode cX9_minute 63 = .ok (.iconst 3, 1) := by decide +kernel
theorem dX9_minute_64 : decode cX9_minute 64 = .ok (.if_icmp .ge 80, 3) := by decide +kernel
theorem dX9_minute_67 : decode cX9_minute 67 = .ok (.aload_n 0, 1) := by decide +kernel
theorem dX9_minute_68 : decode cX9_minute 68 = .ok (.iload_n 1, 1) := by decide +kernel
theorem dX9_minute_69 : decode cX9_minute 69 = .ok (.invokevirtual 88, 3) := by decide +kernel
theorem dX9_minute_72 : decode cX9_minute 72 = .ok (.ifCond .eq 66, 3) := by decide +kernel
theorem dX9_minute_75 : decode cX9_minute 75 = .ok (.aload_n 0, 1) := by decide +kernel
theorem dX9_minute_76 : decode cX9_minute 76 = .ok (.aload_n 0, 1) := by decide +kernel
theorem dX9_minute_77 : decode cX9_minute 77 = .ok (.iload_n 1, 1) := by decide +kernel
theorem dX9_minute_78 : decode cX9_minute 78 = .ok (.iconst 4, 1) := by decide +kernel
theorem dX9_minute_79 : decode cX9_minute 79 = .ok (.invokevirtual 63, 3) := by decide +kernel
theorem dX9_minute_82 : decode cX9_minute 82 = .ok (.iconst 2, 1) := by decide +kernel
theorem dX9_minute_83 : decode cX9_minute 83 = .ok (.invokevirtual 94, 3) := by decide +kernel
theorem dX9_minute_86 : decode cX9_minute 86 = .ok (.iconst 2, 1) := by decide +kernel
theorem dX9_minute_87 : decode cX9_minute 87 = .ok (.if_icmp .ge 51, 3) := by decide +kernel
theorem dX9_minute_90 : decode cX9_minute 90 = .ok (.aload_n 0, 1) := by decide +kernel
theorem dX9_minute_91 : decode cX9_minute 91 = .ok (.iload_n 1, 1) := by decide +kernel
theorem dX9_minute_92 : decode cX9_minute 92 = .ok (.iconst 4, 1) := by decide +kernel
theorem dX9_minute_93 : decode cX9_minute 93 = .ok (.invokevirtual 63, 3) := by decide +kernel
theorem dX9_minute_96 : decode cX9_minute 96 = .ok (.iconst 5, 1) := by decide +kernel
theorem dX9_minute_97 : decode cX9_minute 97 = .ok (.invokestatic 60, 3) := by decide +kernel
theorem dX9_minute_100 : decode cX9_minute 100 = .ok (.istore_n 2, 1) := by decide +kernel
theorem dX9_minute_101 : decode cX9_minute 101 = .ok (.aload_n 0, 1) := by decide +kernel
theorem dX9_minute_102 : decode cX9_minute 102 = .ok (.getfield 7, 3) := by decide +kernel
theorem dX9_minute_105 : decode cX9_minute 105 = .ok (.iload_n 2, 1) := by decide +kernel
theorem dX9_minute_106 : decode cX9_minute 106 = .ok (.dup2, 1) := by decide +kernel
theorem dX9_minute_107 : decode cX9_minute 107 = .ok (.iaload, 1) := by decide +kernel
theorem dX9_minute_108 : decode cX9_minute 108 = .ok (.aload_n 0, 1) := by decide +kernel
theorem dX9_minute_109 : decode cX9_minute 109 = .ok (.getfield 7, 3) := by decide +kernel
theorem dX9_minute_112 : decode cX9_minute 112 = .ok (.iload_n 2, 1) := by decide +kernel
theorem dX9_minute_113 : decode cX9_minute 113 = .ok (.iaload, 1) := by decide +kernel
theorem dX9_minute_114 : decode cX9_minute 114 = .ok (.ifCond .le 7, 3) := by decide +kernel
theorem dX9_minute_117 : decode cX9_minute 117 = .ok (.iconst 1, 1) := by decide +kernel
theorem dX9_minute_118 : decode cX9_minute 118 = .ok (.goto 4, 3) := by decide +kernel
theorem dX9_minute_121 : decode cX9_minute 121 = .ok (.iconst 0, 1) := by decide +kernel
theorem dX9_minute_122 : decode cX9_minute 122 = .ok (.isub, 1) := by decide +kernel
theorem dX9_minute_123 : decode cX9_minute 123 = .ok (.iastore, 1) := by decide +kernel
theorem dX9_minute_124 : decode cX9_minute 124 = .ok (.aload_n 0, 1) := by decide +kernel
theorem dX9_minute_125 : decode cX9_minute 125 = .ok (.getfield 7, 3) := by decide +kernel
theorem dX9_minute_128 : decode cX9_minute 128 = .ok (.iload_n 2, 1) := by decide +kernel
theorem dX9_minute_129 : decode cX9_minute 129 = .ok (.iaload, 1) := by decide +kernel
theorem dX9_minute_130 : decode cX9_minute 130 = .ok (.ifCond .ne 8, 3) := by decide +kernel
theorem dX9_minute_133 : decode cX9_minute 133 = .ok (.aload_n 0, 1) := by decide +kernel
theorem dX9_minute_134 : decode cX9_minute 134 = .ok (.iload_n 1, 1) := by decide +kernel
theorem dX9_minute_135 : decode cX9_minute 135 = .ok (.invokevirtual 132, 3) := by decide +kernel
theorem dX9_minute_138 : decode cX9_minute 138 = .ok (.iinc 1 1, 3) := by decide +kernel
theorem dX9_minute_141 : decode cX9_minute 141 = .ok (.goto (-79), 3) := by decide +kernel
theorem dX9_minute_144 : decode cX9_minute 144 = .ok (.aload_n 0, 1) := by decide +kernel
theorem dX9_minute_145 : decode cX9_minute 145 = .ok (.getfield 7, 3) := by decide +kernel
theorem dX9_minute_148 : decode cX9_minute 148 = .ok (.iconst 1, 1) := by decide +kernel
theorem dX9_minute_149 : decode cX9_minute 149 = .ok (.dup2, 1) := by decide +kernel
theorem dX9_minute_150 : decode cX9_minute 150 = .ok (.iaload, 1) := by decide +kernel
theorem dX9_minute_151 : decode cX9_minute 151 = .ok (.iconst 1, 1) := by decide +kernel
theorem dX9_minute_152 : decode cX9_minute 152 = .ok (.iadd, 1) := by decide +kernel
theorem dX9_minute_153 : decode cX9_minute 153 = .ok (.iastore, 1) := by decide +kernel
theorem dX9_minute_154 : decode cX9_minute 154 = .ok (.return_, 1) := by decide +kernel
theorem dX9_minutesGo_0 : decode cX9_minutesGo 0 = .ok (.iconst 0, 1) := by decide +kernel
theorem dX9_minutesGo_1 : decode cX9_minutesGo 1 = .ok (.istore_n 2, 1) := by decide +kernel
theorem dX9_minutesGo_2 : decode cX9_minutesGo 2 = .ok (.iload_n 2, 1) := by decide +kernel
theorem dX9_minutesGo_3 : decode cX9_minutesGo 3 = .ok (.iload_n 1, 1) := by decide +kernel
theorem dX9_minutesGo_4 : decode cX9_minutesGo 4 = .ok (.if_icmp .ge 13, 3) := by decide +kernel
theorem dX9_minutesGo_7 : decode cX9_minutesGo 7 = .ok (.aload_n 0, 1) := by decide +kernel
theorem dX9_minutesGo_8 : decode cX9_minutesGo 8 = .ok (.invokevirtual 139, 3) := by decide +kernel
theorem dX9_minutesGo_11 : decode cX9_minutesGo 11 = .ok (.iinc 2 1, 3) := by decide +kernel
theorem dX9_minutesGo_14 : decode cX9_minutesGo 14 = .ok (.goto (-12), 3) := by decide +kernel
theorem dX9_minutesGo_17 : decode cX9_minutesGo 17 = .ok (.return_, 1) := by decide +kernel
theorem dX9_seated_0 : decode cX9_seated 0 = .ok (.iconst 0, 1) := by decide +kernel
theorem dX9_seated_1 : decode cX9_seated 1 = .ok (.istore_n 1, 1) := by decide +kernel
theorem dX9_seated_2 : decode cX9_seated 2 = .ok (.iconst 0, 1) := by decide +kernel
theorem dX9_seated_3 : decode cX9_seated 3 = .ok (.istore_n 2, 1) := by decide +kernel
theorem dX9_seated_4 : decode cX9_seated 4 = .ok (.iload_n 2, 1) := by decide +kernel
theorem dX9_seated_5 : decode cX9_seated 5 = .ok (.iconst 3, 1) := by decide +kernel
theorem dX9_seated_6 : decode cX9_seated 6 = .ok (.if_icmp .ge 32, 3) := by decide +kernel
theorem dX9_seated_9 : decode cX9_seated 9 = .ok (.iload_n 1, 1) := by decide +kernel
theorem dX9_seated_10 : decode cX9_seated 10 = .ok (.aload_n 0, 1) := by decide +kernel
theorem dX9_seated_11 : decode cX9_seated 11 = .ok (.iload_n 2, 1) := by decide +kernel
theorem dX9_seated_12 : decode cX9_seated 12 = .ok (.invokevirtual 88, 3) := by decide +kernel
theorem dX9_seated_15 : decode cX9_seated 15 = .ok (.ifCond .eq 14, 3) := by decide +kernel
theorem dX9_seated_18 : decode cX9_seated 18 = .ok (.iconst 1, 1) := by decide +kernel
theorem dX9_seated_19 : decode cX9_seated 19 = .ok (.aload_n 0, 1) := by decide +kernel
theorem dX9_seated_20 : decode cX9_seated 20 = .ok (.iload_n 2, 1) := by decide +kernel
theorem dX9_seated_21 : decode cX9_seated 21 = .ok (.iconst 4, 1) := by decide +kernel
theorem dX9_seated_22 : decode cX9_seated 22 = .ok (.invokevirtual 63, 3) := by decide +kernel
theorem dX9_seated_25 : decode cX9_seated 25 = .ok (.ishl, 1) := by decide +kernel
theorem dX9_seated_26 : decode cX9_seated 26 = .ok (.goto 4, 3) := by decide +kernel
theorem dX9_seated_29 : decode cX9_seated 29 = .ok (.iconst 0, 1) := by decide +kernel
theorem dX9_seated_30 : decode cX9_seated 30 = .ok (.ior, 1) := by decide +kernel
theorem dX9_seated_31 : decode cX9_seated 31 = .ok (.istore_n 1, 1) := by decide +kernel
theorem dX9_seated_32 : decode cX9_seated 32 = .ok (.iinc 2 1, 3) := by decide +kernel
theorem dX9_seated_35 : decode cX9_seated 35 = .ok (.goto (-31), 3) := by decide +kernel
theorem dX9_seated_38 : decode cX9_seated 38 = .ok (.iload_n 1, 1) := by decide +kernel
theorem dX9_seated_39 : decode cX9_seated 39 = .ok (.ireturn, 1) := by decide +kernel
theorem dX9_drive_0 : decode cX9_drive 0 = .ok (.iload_n 1, 1) := by decide +kernel
theorem dX9_drive_1 : decode cX9_drive 1 = .ok (.i2l, 1) := by decide +kernel
theorem dX9_drive_2 : decode cX9_drive 2 = .ok (.lconst 1, 1) := by decide +kernel
theorem dX9_drive_3 : decode cX9_drive 3 = .ok (.ldc2_w 142, 3) := by decide +kernel
theorem dX9_drive_6 : decode cX9_drive 6 = .ok (.invokestatic 54, 3) := by decide +kernel
theorem dX9_drive_9 : decode cX9_drive 9 = .ok (.ifCond .ne 10, 3) := by decide +kernel
theorem dX9_drive_12 : decode cX9_drive 12 = .ok (.aload_n 0, 1) := by decide +kernel
theorem dX9_drive_13 : decode cX9_drive 13 = .ok (.ldc 51, 2) := by decide +kernel
theorem dX9_drive_15 : decode cX9_drive 15 = .ok (.invokevirtual 75, 3) := by decide +kernel
theorem dX9_drive_18 : decode cX9_drive 18 = .ok (.ireturn, 1) := by decide +kernel
theorem dX9_drive_19 : decode cX9_drive 19 = .ok (.aload_n 0, 1) := by decide +kernel
theorem dX9_drive_20 : decode cX9_drive 20 = .ok (.getfield 7, 3) := by decide +kernel
theorem dX9_drive_23 : decode cX9_drive 23 = .ok (.iconst 1, 1) := by decide +kernel
theorem dX9_drive_24 : decode cX9_drive 24 = .ok (.iaload, 1) := by decide +kernel
theorem dX9_drive_25 : decode cX9_drive 25 = .ok (.iload_n 1, 1) := by decide +kernel
theorem dX9_drive_26 : decode cX9_drive 26 = .ok (.iadd, 1) := by decide +kernel
theorem dX9_drive_27 : decode cX9_drive 27 = .ok (.sipush 9999, 3) := by decide +kernel
theorem dX9_drive_30 : decode cX9_drive 30 = .ok (.if_icmp .le 10, 3) := by decide +kernel
theorem dX9_drive_33 : decode cX9_drive 33 = .ok (.aload_n 0, 1) := by decide +kernel
theorem dX9_drive_34 : decode cX9_drive 34 = .ok (.ldc 128, 2) := by decide +kernel
theorem dX9_drive_36 : decode cX9_drive 36 = .ok (.invokevirtual 75, 3) := by decide +kernel
theorem dX9_drive_39 : decode cX9_drive 39 = .ok (.ireturn, 1) := by decide +kernel
theorem dX9_drive_40 : decode cX9_drive 40 = .ok (.aload_n 0, 1) := by decide +kernel
theorem dX9_drive_41 : decode cX9_drive 41 = .ok (.iload_n 1, 1) := by decide +kernel
theorem dX9_drive_42 : decode cX9_drive 42 = .ok (.invokevirtual 144, 3) := by decide +kernel
theorem dX9_drive_45 : decode cX9_drive 45 = .ok (.aload_n 0, 1) := by decide +kernel
theorem dX9_drive_46 : decode cX9_drive 46 = .ok (.invokevirtual 147, 3) := by decide +kernel
theorem dX9_drive_49 : decode cX9_drive 49 = .ok (.ireturn, 1) := by decide +kernel
theorem dX9_together_0 : decode cX9_together 0 = .ok (.iconst 0, 1) := by decide +kernel
theorem dX9_together_1 : decode cX9_together 1 = .ok (.istore_n 2, 1) := by decide +kernel
theorem dX9_together_2 : decode cX9_together 2 = .ok (.iconst 0, 1) := by decide +kernel
theorem dX9_together_3 : decode cX9_together 3 = .ok (.istore_n 3, 1) := by decide +kernel
theorem dX9_together_4 : decode cX9_together 4 = .ok (.iload_n 3, 1) := by decide +kernel
theorem dX9_together_5 : decode cX9_together 5 = .ok (.aload_n 0, 1) := by decide +kernel
theorem dX9_together_6 : decode cX9_together 6 = .ok (.getfield 7, 3) := by decide +kernel
theorem dX9_together_9 : decode cX9_together 9 = .ok (.iconst 0, 1) := by decide +kernel
theorem dX9_together_10 : decode cX9_together 10 = .ok (.iaload, 1) := by decide +kernel
theorem dX9_together_11 : decode cX9_together 11 = .ok (.if_icmp .ge 18, 3) := by decide +kernel
theorem dX9_together_14 : decode cX9_together 14 = .ok (.iload_n 2, 1) := by decide +kernel
theorem dX9_together_15 : decode cX9_together 15 = .ok (.aload_n 0, 1) := by decide +kernel
theorem dX9_together_16 : decode cX9_together 16 = .ok (.iload_n 3, 1) := by decide +kernel
theorem dX9_together_17 : decode cX9_together 17 = .ok (.iload_n 1, 1) := by decide +kernel
theorem dX9_together_18 : decode cX9_together 18 = .ok (.invokevirtual 94, 3) := by decide +kernel
theorem dX9_together_21 : decode cX9_together 21 = .ok (.iadd, 1) := by decide +kernel
theorem dX9_together_22 : decode cX9_together 22 = .ok (.istore_n 2, 1) := by decide +kernel
theorem dX9_together_23 : decode cX9_together 23 = .ok (.iinc 3 1, 3) := by decide +kernel
theorem dX9_together_26 : decode cX9_together 26 = .ok (.goto (-22), 3) := by decide +kernel
theorem dX9_together_29 : decode cX9_together 29 = .ok (.iload_n 2, 1) := by decide +kernel
theorem dX9_together_30 : decode cX9_together 30 = .ok (.ireturn, 1) := by decide +kernel
theorem dX9_now_0 : decode cX9_now 0 = .ok (.iload_n 1, 1) := by decide +kernel
theorem dX9_now_1 : decode cX9_now 1 = .ok (.tableswitch 65 0 5 #[39, 39, 39, 48, 53, 59], 39) := by decide +kernel
theorem dX9_now_40 : decode cX9_now 40 = .ok (.aload_n 0, 1) := by decide +kernel
theorem dX9_now_41 : decode cX9_now 41 = .ok (.getfield 7, 3) := by decide +kernel
theorem dX9_now_44 : decode cX9_now 44 = .ok (.iconst 1, 1) := by decide +kernel
theorem dX9_now_45 : decode cX9_now 45 = .ok (.iload_n 1, 1) := by decide +kernel
theorem dX9_now_46 : decode cX9_now 46 = .ok (.iadd, 1) := by decide +kernel
theorem dX9_now_47 : decode cX9_now 47 = .ok (.iaload, 1) := by decide +kernel
theorem dX9_now_48 : decode cX9_now 48 = .ok (.ireturn, 1) := by decide +kernel
theorem dX9_now_49 : decode cX9_now 49 = .ok (.aload_n 0, 1) := by decide +kernel
theorem dX9_now_50 : decode cX9_now 50 = .ok (.invokevirtual 147, 3) := by decide +kernel
theorem dX9_now_53 : decode cX9_now 53 = .ok (.ireturn, 1) := by decide +kernel
theorem dX9_now_54 : decode cX9_now 54 = .ok (.aload_n 0, 1) := by decide +kernel
theorem dX9_now_55 : decode cX9_now 55 = .ok (.iconst 2, 1) := by decide +kernel
theorem dX9_now_56 : decode cX9_now 56 = .ok (.invokevirtual 151, 3) := by decide +kernel
theorem dX9_now_59 : decode cX9_now 59 = .ok (.ireturn, 1) := by decide +kernel
theorem dX9_now_60 : decode cX9_now 60 = .ok (.aload_n 0, 1) := by decide +kernel
theorem dX9_now_61 : decode cX9_now 61 = .ok (.iconst 5, 1) := by decide +kernel
theorem dX9_now_62 : decode cX9_now 62 = .ok (.invokevirtual 151, 3) := by decide +kernel
theorem dX9_now_65 : decode cX9_now 65 = .ok (.ireturn, 1) := by decide +kernel
theorem dX9_now_66 : decode cX9_now 66 = .ok (.aload_n 0, 1) := by decide +kernel
theorem dX9_now_67 : decode cX9_now 67 = .ok (.ldc 51, 2) := by decide +kernel
theorem dX9_now_69 : decode cX9_now 69 = .ok (.invokevirtual 75, 3) := by decide +kernel
theorem dX9_now_72 : decode cX9_now 72 = .ok (.ireturn, 1) := by decide +kernel
theorem dX9_on_0 : decode cX9_on 0 = .ok (.aload_n 0, 1) := by decide +kernel
theorem dX9_on_1 : decode cX9_on 1 = .ok (.iload_n 1, 1) := by decide +kernel
theorem dX9_on_2 : decode cX9_on 2 = .ok (.invokevirtual 100, 3) := by decide +kernel
theorem dX9_on_5 : decode cX9_on 5 = .ok (.ifCond .eq 25, 3) := by decide +kernel
theorem dX9_on_8 : decode cX9_on 8 = .ok (.iload_n 2, 1) := by decide +kernel
theorem dX9_on_9 : decode cX9_on 9 = .ok (.i2l, 1) := by decide +kernel
theorem dX9_on_10 : decode cX9_on 10 = .ok (.lconst 0, 1) := by decide +kernel
theorem dX9_on_11 : decode cX9_on 11 = .ok (.ldc2_w 142, 3) := by decide +kernel
theorem dX9_on_14 : decode cX9_on 14 = .ok (.invokestatic 54, 3) := by decide +kernel
theorem dX9_on_17 : decode cX9_on 17 = .ok (.ifCond .eq 13, 3) := by decide +kernel
theorem dX9_on_20 : decode cX9_on 20 = .ok (.iload_n 3, 1) := by decide +kernel
theorem dX9_on_21 : decode cX9_on 21 = .ok (.i2l, 1) := by decide +kernel
theorem dX9_on_22 : decode cX9_on 22 = .ok (.lconst 0, 1) := by decide +kernel
theorem dX9_on_23 : decode cX9_on 23 = .ok (.lconst 1, 1) := by decide +kernel
theorem dX9_on_24 : decode cX9_on 24 = .ok (.invokestatic 54, 3) := by decide +kernel
theorem dX9_on_27 : decode cX9_on 27 = .ok (.ifCond .ne 10, 3) := by decide +kernel
theorem dX9_on_30 : decode cX9_on 30 = .ok (.aload_n 0, 1) := by decide +kernel
theorem dX9_on_31 : decode cX9_on 31 = .ok (.ldc 51, 2) := by decide +kernel
theorem dX9_on_33 : decode cX9_on 33 = .ok (.invokevirtual 75, 3) := by decide +kernel
theorem dX9_on_36 : decode cX9_on 36 = .ok (.ireturn, 1) := by decide +kernel
theorem dX9_on_37 : decode cX9_on 37 = .ok (.aload_n 0, 1) := by decide +kernel
theorem dX9_on_38 : decode cX9_on 38 = .ok (.invokevirtual 154, 3) := by decide +kernel
theorem dX9_on_41 : decode cX9_on 41 = .ok (.aload_n 0, 1) := by decide +kernel
theorem dX9_on_42 : decode cX9_on 42 = .ok (.iload_n 2, 1) := by decide +kernel
theorem dX9_on_43 : decode cX9_on 43 = .ok (.invokevirtual 144, 3) := by decide +kernel
theorem dX9_on_46 : decode cX9_on 46 = .ok (.aload_n 0, 1) := by decide +kernel
theorem dX9_on_47 : decode cX9_on 47 = .ok (.aload_n 0, 1) := by decide +kernel
theorem dX9_on_48 : decode cX9_on 48 = .ok (.iload_n 1, 1) := by decide +kernel
theorem dX9_on_49 : decode cX9_on 49 = .ok (.iload_n 3, 1) := by decide +kernel
theorem dX9_on_50 : decode cX9_on 50 = .ok (.ifCond .ne 7, 3) := by decide +kernel
theorem dX9_on_53 : decode cX9_on 53 = .ok (.iconst 2, 1) := by decide +kernel
theorem dX9_on_54 : decode cX9_on 54 = .ok (.goto 4, 3) := by decide +kernel
theorem dX9_on_57 : decode cX9_on 57 = .ok (.iconst 5, 1) := by decide +kernel
theorem dX9_on_58 : decode cX9_on 58 = .ok (.invokevirtual 94, 3) := by decide +kernel
theorem dX9_on_61 : decode cX9_on 61 = .ok (.invokevirtual 157, 3) := by decide +kernel
theorem dX9_on_64 : decode cX9_on 64 = .ok (.ireturn, 1) := by decide +kernel
theorem dX9_outIn_0 : decode cX9_outIn 0 = .ok (.aload_n 0, 1) := by decide +kernel
theorem dX9_outIn_1 : decode cX9_outIn 1 = .ok (.invokevirtual 154, 3) := by decide +kernel
theorem dX9_outIn_4 : decode cX9_outIn 4 = .ok (.iconst 0, 1) := by decide +kernel
theorem dX9_outIn_5 : decode cX9_outIn 5 = .ok (.istore_n 3, 1) := by decide +kernel
theorem dX9_outIn_6 : decode cX9_outIn 6 = .ok (.iload_n 3, 1) := by decide +kernel
theorem dX9_outIn_7 : decode cX9_outIn 7 = .ok (.iload_n 2, 1) := by decide +kernel
theorem dX9_outIn_8 : decode cX9_outIn 8 = .ok (.if_icmp .ge 21, 3) := by decide +kernel
theorem dX9_outIn_11 : decode cX9_outIn 11 = .ok (.aload_n 0, 1) := by decide +kernel
theorem dX9_outIn_12 : decode cX9_outIn 12 = .ok (.iload_n 1, 1) := by decide +kernel
theorem dX9_outIn_13 : decode cX9_outIn 13 = .ok (.invokevirtual 91, 3) := by decide +kernel
theorem dX9_outIn_16 : decode cX9_outIn 16 = .ok (.ifCond .lt 13, 3) := by decide +kernel
theorem dX9_outIn_19 : decode cX9_outIn 19 = .ok (.aload_n 0, 1) := by decide +kernel
theorem dX9_outIn_20 : decode cX9_outIn 20 = .ok (.invokevirtual 139, 3) := by decide +kernel
theorem dX9_outIn_23 : decode cX9_outIn 23 = .ok (.iinc 3 1, 3) := by decide +kernel
theorem dX9_outIn_26 : decode cX9_outIn 26 = .ok (.goto (-20), 3) := by decide +kernel
theorem dX9_outIn_29 : decode cX9_outIn 29 = .ok (.aload_n 0, 1) := by decide +kernel
theorem dX9_outIn_30 : decode cX9_outIn 30 = .ok (.aload_n 0, 1) := by decide +kernel
theorem dX9_outIn_31 : decode cX9_outIn 31 = .ok (.iload_n 1, 1) := by decide +kernel
theorem dX9_outIn_32 : decode cX9_outIn 32 = .ok (.invokevirtual 91, 3) := by decide +kernel
theorem dX9_outIn_35 : decode cX9_outIn 35 = .ok (.ifCond .lt 9, 3) := by decide +kernel
theorem dX9_outIn_38 : decode cX9_outIn 38 = .ok (.iload_n 2, 1) := by decide +kernel
theorem dX9_outIn_39 : decode cX9_outIn 39 = .ok (.iconst 1, 1) := by decide +kernel
theorem dX9_outIn_40 : decode cX9_outIn 40 = .ok (.iadd, 1) := by decide +kernel
theorem dX9_outIn_41 : decode cX9_outIn 41 = .ok (.goto 4, 3) := by decide +kernel
theorem dX9_outIn_44 : decode cX9_outIn 44 = .ok (.iload_n 3, 1) := by decide +kernel
theorem dX9_outIn_45 : decode cX9_outIn 45 = .ok (.invokevirtual 157, 3) := by decide +kernel
theorem dX9_outIn_48 : decode cX9_outIn 48 = .ok (.ireturn, 1) := by decide +kernel
theorem dX9_out_0 : decode cX9_out 0 = .ok (.aload_n 0, 1) := by decide +kernel
theorem dX9_out_1 : decode cX9_out 1 = .ok (.iload_n 1, 1) := by decide +kernel
theorem dX9_out_2 : decode cX9_out 2 = .ok (.invokevirtual 100, 3) := by decide +kernel
theorem dX9_out_5 : decode cX9_out 5 = .ok (.ifCond .ne 10, 3) := by decide +kernel
theorem dX9_out_8 : decode cX9_out 8 = .ok (.aload_n 0, 1) := by decide +kernel
theorem dX9_out_9 : decode cX9_out 9 = .ok (.ldc 51, 2) := by decide +kernel
theorem dX9_out_11 : decode cX9_out 11 = .ok (.invokevirtual 75, 3) := by decide +kernel
theorem dX9_out_14 : decode cX9_out 14 = .ok (.ireturn, 1) := by decide +kernel
theorem dX9_out_15 : decode cX9_out 15 = .ok (.aload_n 0, 1) := by decide +kernel
theorem dX9_out_16 : decode cX9_out 16 = .ok (.iload_n 1, 1) := by decide +kernel
theorem dX9_out_17 : decode cX9_out 17 = .ok (.invokevirtual 91, 3) := by decide +kernel
theorem dX9_out_20 : decode cX9_out 20 = .ok (.ifCond .ge 10, 3) := by decide +kernel
theorem dX9_out_23 : decode cX9_out 23 = .ok (.aload_n 0, 1) := by decide +kernel
theorem dX9_out_24 : decode cX9_out 24 = .ok (.ldc 128, 2) := by decide +kernel
theorem dX9_out_26 : decode cX9_out 26 = .ok (.invokevirtual 75, 3) := by decide +kernel
theorem dX9_out_29 : decode cX9_out 29 = .ok (.ireturn, 1) := by decide +kernel
theorem dX9_out_30 : decode cX9_out 30 = .ok (.aload_n 0, 1) := by decide +kernel
theorem dX9_out_31 : decode cX9_out 31 = .ok (.iload_n 1, 1) := by decide +kernel
theorem dX9_out_32 : decode cX9_out 32 = .ok (.bipush 60, 2) := by decide +kernel
theorem dX9_out_34 : decode cX9_out 34 = .ok (.invokevirtual 160, 3) := by decide +kernel
theorem dX9_out_37 : decode cX9_out 37 = .ok (.istore_n 2, 1) := by decide +kernel
theorem dX9_out_38 : decode cX9_out 38 = .ok (.iload_n 2, 1) := by decide +kernel
theorem dX9_out_39 : decode cX9_out 39 = .ok (.bipush 60, 2) := by decide +kernel
theorem dX9_out_41 : decode cX9_out 41 = .ok (.if_icmp .le 12, 3) := by decide +kernel
theorem dX9_out_44 : decode cX9_out 44 = .ok (.aload_n 0, 1) := by decide +kernel
theorem dX9_out_45 : decode cX9_out 45 = .ok (.ldc 163, 2) := by decide +kernel
theorem dX9_out_47 : decode cX9_out 47 = .ok (.invokevirtual 75, 3) := by decide +kernel
theorem dX9_out_50 : decode cX9_out 50 = .ok (.goto 4, 3) := by decide +kernel
theorem dX9_out_53 : decode cX9_out 53 = .ok (.iload_n 2, 1) := by decide +kernel
theorem dX9_out_54 : decode cX9_out 54 = .ok (.ireturn, 1) := by decide +kernel
theorem dX9_firstOut_0 : decode cX9_firstOut 0 = .ok (.bipush 61, 2) := by decide +kernel
theorem dX9_firstOut_2 : decode cX9_firstOut 2 = .ok (.istore_n 1, 1) := by decide +kernel
theorem dX9_firstOut_3 : decode cX9_firstOut 3 = .ok (.iconst 0, 1) := by decide +kernel
theorem dX9_firstOut_4 : decode cX9_firstOut 4 = .ok (.istore_n 2, 1) := by decide +kernel
theorem dX9_firstOut_5 : decode cX9_firstOut 5 = .ok (.iload_n 2, 1) := by decide +kernel
theorem dX9_firstOut_6 : decode cX9_firstOut 6 = .ok (.aload_n 0, 1) := by decide +kernel
theorem dX9_firstOut_7 : decode cX9_firstOut 7 = .ok (.getfield 7, 3) := by decide +kernel
theorem dX9_firstOut_10 : decode cX9_firstOut 10 = .ok (.iconst 0, 1) := by decide +kernel
theorem dX9_firstOut_11 : decode cX9_firstOut 11 = .ok (.iaload, 1) := by decide +kernel
theorem dX9_firstOut_12 : decode cX9_firstOut 12 = .ok (.if_icmp .ge 40, 3) := by decide +kernel
theorem dX9_firstOut_15 : decode cX9_firstOut 15 = .ok (.aload_n 0, 1) := by decide +kernel
theorem dX9_firstOut_16 : decode cX9_firstOut 16 = .ok (.iload_n 2, 1) := by decide +kernel
theorem dX9_firstOut_17 : decode cX9_firstOut 17 = .ok (.invokevirtual 91, 3) := by decide +kernel
theorem dX9_firstOut_20 : decode cX9_firstOut 20 = .ok (.ifCond .lt 13, 3) := by decide +kernel
theorem dX9_firstOut_23 : decode cX9_firstOut 23 = .ok (.aload_n 0, 1) := by decide +kernel
theorem dX9_firstOut_24 : decode cX9_firstOut 24 = .ok (.iload_n 2, 1) := by decide +kernel
theorem dX9_firstOut_25 : decode cX9_firstOut 25 = .ok (.bipush 60, 2) := by decide +kernel
theorem dX9_firstOut_27 : decode cX9_firstOut 27 = .ok (.invokevirtual 160, 3) := by decide +kernel
theorem dX9_firstOut_30 : decode cX9_firstOut 30 = .ok (.goto 4, 3) := by decide +kernel
theorem dX9_firstOut_33 : decode cX9_firstOut 33 = .ok (.iload_n 1, 1) := by decide +kernel
theorem dX9_firstOut_34 : decode cX9_firstOut 34 = .ok (.istore_n 3, 1) := by decide +kernel
theorem dX9_firstOut_35 : decode cX9_firstOut 35 = .ok (.iload_n 3, 1) := by decide +kernel
theorem dX9_firstOut_36 : decode cX9_firstOut 36 = .ok (.iload_n 1, 1) := by decide +kernel
theorem dX9_firstOut_37 : decode cX9_firstOut 37 = .ok (.if_icmp .ge 7, 3) := by decide +kernel
theorem dX9_firstOut_40 : decode cX9_firstOut 40 = .ok (.iload_n 3, 1) := by decide +kernel
theorem dX9_firstOut_41 : decode cX9_firstOut 41 = .ok (.goto 4, 3) := by decide +kernel
theorem dX9_firstOut_44 : decode cX9_firstOut 44 = .ok (.iload_n 1, 1) := by decide +kernel
theorem dX9_firstOut_45 : decode cX9_firstOut 45 = .ok (.istore_n 1, 1) := by decide +kernel
theorem dX9_firstOut_46 : decode cX9_firstOut 46 = .ok (.iinc 2 1, 3) := by decide +kernel
theorem dX9_firstOut_49 : decode cX9_firstOut 49 = .ok (.goto (-44), 3) := by decide +kernel
theorem dX9_firstOut_52 : decode cX9_firstOut 52 = .ok (.iload_n 1, 1) := by decide +kernel
theorem dX9_firstOut_53 : decode cX9_firstOut 53 = .ok (.bipush 60, 2) := by decide +kernel
theorem dX9_firstOut_55 : decode cX9_firstOut 55 = .ok (.if_icmp .le 12, 3) := by decide +kernel
theorem dX9_firstOut_58 : decode cX9_firstOut 58 = .ok (.aload_n 0, 1) := by decide +kernel
theorem dX9_firstOut_59 : decode cX9_firstOut 59 = .ok (.ldc 163, 2) := by decide +kernel
theorem dX9_firstOut_61 : decode cX9_firstOut 61 = .ok (.invokevirtual 75, 3) := by decide +kernel
theorem dX9_firstOut_64 : decode cX9_firstOut 64 = .ok (.goto 4, 3) := by decide +kernel
theorem dX9_firstOut_67 : decode cX9_firstOut 67 = .ok (.iload_n 1, 1) := by decide +kernel
theorem dX9_firstOut_68 : decode cX9_firstOut 68 = .ok (.ireturn, 1) := by decide +kernel
theorem dX9_wrongSeeker_0 : decode cX9_wrongSeeker 0 = .ok (.aload_n 0, 1) := by decide +kernel
theorem dX9_wrongSeeker_1 : decode cX9_wrongSeeker 1 = .ok (.iconst 0, 1) := by decide +kernel
theorem dX9_wrongSeeker_2 : decode cX9_wrongSeeker 2 = .ok (.invokevirtual 88, 3) := by decide +kernel
theorem dX9_wrongSeeker_5 : decode cX9_wrongSeeker 5 = .ok (.ifCond .eq 23, 3) := by decide +kernel
theorem dX9_wrongSeeker_8 : decode cX9_wrongSeeker 8 = .ok (.aload_n 0, 1) := by decide +kernel
theorem dX9_wrongSeeker_9 : decode cX9_wrongSeeker 9 = .ok (.iconst 1, 1) := by decide +kernel
theorem dX9_wrongSeeker_10 : decode cX9_wrongSeeker 10 = .ok (.invokevirtual 88, 3) := by decide +kernel
theorem dX9_wrongSeeker_13 : decode cX9_wrongSeeker 13 = .ok (.ifCond .eq 15, 3) := by decide +kernel
theorem dX9_wrongSeeker_16 : decode cX9_wrongSeeker 16 = .ok (.aload_n 0, 1) := by decide +kernel
theorem dX9_wrongSeeker_17 : decode cX9_wrongSeeker 17 = .ok (.iconst 2, 1) := by decide +kernel
theorem dX9_wrongSeeker_18 : decode cX9_wrongSeeker 18 = .ok (.invokevirtual 88, 3) := by decide +kernel
theorem dX9_wrongSeeker_21 : decode cX9_wrongSeeker 21 = .ok (.ifCond .eq 7, 3) := by decide +kernel
theorem dX9_wrongSeeker_24 : decode cX9_wrongSeeker 24 = .ok (.iconst 1, 1) := by decide +kernel
theorem dX9_wrongSeeker_25 : decode cX9_wrongSeeker 25 = .ok (.goto 4, 3) := by decide +kernel
theorem dX9_wrongSeeker_28 : decode cX9_wrongSeeker 28 = .ok (.iconst 0, 1) := by decide +kernel
theorem dX9_wrongSeeker_29 : decode cX9_wrongSeeker 29 = .ok (.istore_n 2, 1) := by decide +kernel
theorem dX9_wrongSeeker_30 : decode cX9_wrongSeeker 30 = .ok (.aload_n 0, 1) := by decide +kernel
theorem dX9_wrongSeeker_31 : decode cX9_wrongSeeker 31 = .ok (.iload_n 1, 1) := by decide +kernel
theorem dX9_wrongSeeker_32 : decode cX9_wrongSeeker 32 = .ok (.invokevirtual 100, 3) := by decide +kernel
theorem dX9_wrongSeeker_35 : decode cX9_wrongSeeker 35 = .ok (.ifCond .ne 8, 3) := by decide +kernel
theorem dX9_wrongSeeker_38 : decode cX9_wrongSeeker 38 = .ok (.ldc 51, 2) := by decide +kernel
theorem dX9_wrongSeeker_40 : decode cX9_wrongSeeker 40 = .ok (.goto 26, 3) := by decide +kernel
theorem dX9_wrongSeeker_43 : decode cX9_wrongSeeker 43 = .ok (.aload_n 0, 1) := by decide +kernel
theorem dX9_wrongSeeker_44 : decode cX9_wrongSeeker 44 = .ok (.iload_n 1, 1) := by decide +kernel
theorem dX9_wrongSeeker_45 : decode cX9_wrongSeeker 45 = .ok (.invokevirtual 91, 3) := by decide +kernel
theorem dX9_wrongSeeker_48 : decode cX9_wrongSeeker 48 = .ok (.ifCond .lt 8, 3) := by decide +kernel
theorem dX9_wrongSeeker_51 : decode cX9_wrongSeeker 51 = .ok (.ldc 128, 2) := by decide +kernel
theorem dX9_wrongSeeker_53 : decode cX9_wrongSeeker 53 = .ok (.goto 13, 3) := by decide +kernel
theorem dX9_wrongSeeker_56 : decode cX9_wrongSeeker 56 = .ok (.iload_n 2, 1) := by decide +kernel
theorem dX9_wrongSeeker_57 : decode cX9_wrongSeeker 57 = .ok (.ifCond .eq 8, 3) := by decide +kernel
theorem dX9_wrongSeeker_60 : decode cX9_wrongSeeker 60 = .ok (.ldc 163, 2) := by decide +kernel
theorem dX9_wrongSeeker_62 : decode cX9_wrongSeeker 62 = .ok (.goto 4, 3) := by decide +kernel
theorem dX9_wrongSeeker_65 : decode cX9_wrongSeeker 65 = .ok (.iconst 0, 1) := by decide +kernel
theorem dX9_wrongSeeker_66 : decode cX9_wrongSeeker 66 = .ok (.ireturn, 1) := by decide +kernel
theorem dX9_quick_0 : decode cX9_quick 0 = .ok (.aload_n 0, 1) := by decide +kernel
theorem dX9_quick_1 : decode cX9_quick 1 = .ok (.iload_n 1, 1) := by decide +kernel
theorem dX9_quick_2 : decode cX9_quick 2 = .ok (.invokevirtual 164, 3) := by decide +kernel
theorem dX9_quick_5 : decode cX9_quick 5 = .ok (.istore_n 2, 1) := by decide +kernel
theorem dX9_quick_6 : decode cX9_quick 6 = .ok (.iload_n 2, 1) := by decide +kernel
theorem dX9_quick_7 : decode cX9_quick 7 = .ok (.ifCond .eq 9, 3) := by decide +kernel
theorem dX9_quick_10 : decode cX9_quick 10 = .ok (.aload_n 0, 1) := by decide +kernel
theorem dX9_quick_11 : decode cX9_quick 11 = .ok (.iload_n 2, 1) := by decide +kernel
theorem dX9_quick_12 : decode cX9_quick 12 = .ok (.invokevirtual 75, 3) := by decide +kernel
theorem dX9_quick_15 : decode cX9_quick 15 = .ok (.ireturn, 1) := by decide +kernel
theorem dX9_quick_16 : decode cX9_quick 16 = .ok (.iconst (-1), 1) := by decide +kernel
theorem dX9_quick_17 : decode cX9_quick 17 = .ok (.istore_n 3, 1) := by decide +kernel
theorem dX9_quick_18 : decode cX9_quick 18 = .ok (.iconst 0, 1) := by decide +kernel
theorem dX9_quick_19 : decode cX9_quick 19 = .ok (.istore 4, 2) := by decide +kernel
theorem dX9_quick_21 : decode cX9_quick 21 = .ok (.iload 4, 2) := by decide +kernel
theorem dX9_quick_23 : decode cX9_quick 23 = .ok (.iconst 3, 1) := by decide +kernel
theorem dX9_quick_24 : decode cX9_quick 24 = .ok (.if_icmp .ge 45, 3) := by decide +kernel
theorem dX9_quick_27 : decode cX9_quick 27 = .ok (.aload_n 0, 1) := by decide +kernel
theorem dX9_quick_28 : decode cX9_quick 28 = .ok (.iload 4, 2) := by decide +kernel
theorem dX9_quick_30 : decode cX9_quick 30 = .ok (.invokevirtual 88, 3) := by decide +kernel
theorem dX9_quick_33 : decode cX9_quick 33 = .ok (.ifCond .ne 28, 3) := by decide +kernel
theorem dX9_quick_36 : decode cX9_quick 36 = .ok (.iload_n 3, 1) := by decide +kernel
theorem dX9_quick_37 : decode cX9_quick 37 = .ok (.ifCond .lt 19, 3) := by decide +kernel
theorem dX9_quick_40 : decode cX9_quick 40 = .ok (.aload_n 0, 1) := by decide +kernel
theorem dX9_quick_41 : decode cX9_quick 41 = .ok (.iload_n 1, 1) := by decide +kernel
theorem dX9_quick_42 : decode cX9_quick 42 = .ok (.iload 4, 2) := by decide +kernel
theorem dX9_quick_44 : decode cX9_quick 44 = .ok (.invokevirtual 118, 3) := by decide +kernel
theorem dX9_quick_47 : decode cX9_quick 47 = .ok (.aload_n 0, 1) := by decide +kernel
theorem dX9_quick_48 : decode cX9_quick 48 = .ok (.iload_n 1, 1) := by decide +kernel
theorem dX9_quick_49 : decode cX9_quick 49 = .ok (.iload_n 3, 1) := by decide +kernel
theorem dX9_quick_50 : decode cX9_quick 50 = .ok (.invokevirtual 118, 3) := by decide +kernel
theorem dX9_quick_53 : decode cX9_quick 53 = .ok (.if_icmp .ge 8, 3) := by decide +kernel
theorem dX9_quick_56 : decode cX9_quick 56 = .ok (.iload 4, 2) := by decide +kernel
theorem dX9_quick_58 : decode cX9_quick 58 = .ok (.goto 4, 3) := by decide +kernel
theorem dX9_quick_61 : decode cX9_quick 61 = .ok (.iload_n 3, 1) := by decide +kernel
theorem dX9_quick_62 : decode cX9_quick 62 = .ok (.istore_n 3, 1) := by decide +kernel
theorem dX9_quick_63 : decode cX9_quick 63 = .ok (.iinc 4 1, 3) := by decide +kernel
theorem dX9_quick_66 : decode cX9_quick 66 = .ok (.goto (-45), 3) := by decide +kernel
theorem dX9_quick_69 : decode cX9_quick 69 = .ok (.iload_n 3, 1) := by decide +kernel
theorem dX9_quick_70 : decode cX9_quick 70 = .ok (.ireturn, 1) := by decide +kernel
theorem dX9_safe_0 : decode cX9_safe 0 = .ok (.aload_n 0, 1) := by decide +kernel
theorem dX9_safe_1 : decode cX9_safe 1 = .ok (.iload_n 1, 1) := by decide +kernel
theorem dX9_safe_2 : decode cX9_safe 2 = .ok (.invokevirtual 164, 3) := by decide +kernel
theorem dX9_safe_5 : decode cX9_safe 5 = .ok (.istore_n 2, 1) := by decide +kernel
theorem dX9_safe_6 : decode cX9_safe 6 = .ok (.iload_n 2, 1) := by decide +kernel
theorem dX9_safe_7 : decode cX9_safe 7 = .ok (.ifCond .eq 9, 3) := by decide +kernel
theorem dX9_safe_10 : decode cX9_safe 10 = .ok (.aload_n 0, 1) := by decide +kernel
theorem dX9_safe_11 : decode cX9_safe 11 = .ok (.iload_n 2, 1) := by decide +kernel
theorem dX9_safe_12 : decode cX9_safe 12 = .ok (.invokevirtual 75, 3) := by decide +kernel
theorem dX9_safe_15 : decode cX9_safe 15 = .ok (.ireturn, 1) := by decide +kernel
theorem dX9_safe_16 : decode cX9_safe 16 = .ok (.iconst (-1), 1) := by decide +kernel
theorem dX9_safe_17 : decode cX9_safe 17 = .ok (.istore_n 3, 1) := by decide +kernel
theorem dX9_safe_18 : decode cX9_safe 18 = .ok (.iconst 0, 1) := by decide +kernel
theorem dX9_safe_19 : decode cX9_safe 19 = .ok (.istore 4, 2) := by decide +kernel
theorem dX9_safe_21 : decode cX9_safe 21 = .ok (.iload 4, 2) := by decide +kernel
theorem dX9_safe_23 : decode cX9_safe 23 = .ok (.iconst 3, 1) := by decide +kernel
theorem dX9_safe_24 : decode cX9_safe 24 = .ok (.if_icmp .ge 45, 3) := by decide +kernel
theorem dX9_safe_27 : decode cX9_safe 27 = .ok (.aload_n 0, 1) := by decide +kernel
theorem dX9_safe_28 : decode cX9_safe 28 = .ok (.iload 4, 2) := by decide +kernel
theorem dX9_safe_30 : decode cX9_safe 30 = .ok (.invokevirtual 88, 3) := by decide +kernel
theorem dX9_safe_33 : decode cX9_safe 33 = .ok (.ifCond .ne 28, 3) := by decide +kernel
theorem dX9_safe_36 : decode cX9_safe 36 = .ok (.iload_n 3, 1) := by decide +kernel
theorem dX9_safe_37 : decode cX9_safe 37 = .ok (.ifCond .lt 19, 3) := by decide +kernel
theorem dX9_safe_40 : decode cX9_safe 40 = .ok (.aload_n 0, 1) := by decide +kernel
theorem dX9_safe_41 : decode cX9_safe 41 = .ok (.iload_n 1, 1) := by decide +kernel
theorem dX9_safe_42 : decode cX9_safe 42 = .ok (.iload 4, 2) := by decide +kernel
theorem dX9_safe_44 : decode cX9_safe 44 = .ok (.invokevirtual 121, 3) := by decide +kernel
theorem dX9_safe_47 : decode cX9_safe 47 = .ok (.aload_n 0, 1) := by decide +kernel
theorem dX9_safe_48 : decode cX9_safe 48 = .ok (.iload_n 1, 1) := by decide +kernel
theorem dX9_safe_49 : decode cX9_safe 49 = .ok (.iload_n 3, 1) := by decide +kernel
theorem dX9_safe_50 : decode cX9_safe 50 = .ok (.invokevirtual 121, 3) := by decide +kernel
theorem dX9_safe_53 : decode cX9_safe 53 = .ok (.if_icmp .le 8, 3) := by decide +kernel
theorem dX9_safe_56 : decode cX9_safe 56 = .ok (.iload 4, 2) := by decide +kernel
theorem dX9_safe_58 : decode cX9_safe 58 = .ok (.goto 4, 3) := by decide +kernel
theorem dX9_safe_61 : decode cX9_safe 61 = .ok (.iload_n 3, 1) := by decide +kernel
theorem dX9_safe_62 : decode cX9_safe 62 = .ok (.istore_n 3, 1) := by decide +kernel
theorem dX9_safe_63 : decode cX9_safe 63 = .ok (.iinc 4 1, 3) := by decide +kernel
theorem dX9_safe_66 : decode cX9_safe 66 = .ok (.goto (-45), 3) := by decide +kernel
theorem dX9_safe_69 : decode cX9_safe 69 = .ok (.iload_n 3, 1) := by decide +kernel
theorem dX9_safe_70 : decode cX9_safe 70 = .ok (.ireturn, 1) := by decide +kernel
theorem dX9_ones_0 : decode cX9_ones 0 = .ok (.iconst 0, 1) := by decide +kernel
theorem dX9_ones_1 : decode cX9_ones 1 = .ok (.istore_n 1, 1) := by decide +kernel
theorem dX9_ones_2 : decode cX9_ones 2 = .ok (.iload_n 0, 1) := by decide +kernel
theorem dX9_ones_3 : decode cX9_ones 3 = .ok (.istore_n 2, 1) := by decide +kernel
theorem dX9_ones_4 : decode cX9_ones 4 = .ok (.iload_n 2, 1) := by decide +kernel
theorem dX9_ones_5 : decode cX9_ones 5 = .ok (.ifCond .eq 15, 3) := by decide +kernel
theorem dX9_ones_8 : decode cX9_ones 8 = .ok (.iinc 1 1, 3) := by decide +kernel
theorem dX9_ones_11 : decode cX9_ones 11 = .ok (.iload_n 2, 1) := by decide +kernel
theorem dX9_ones_12 : decode cX9_ones 12 = .ok (.iload_n 2, 1) := by decide +kernel
theorem dX9_ones_13 : decode cX9_ones 13 = .ok (.iconst 1, 1) := by decide +kernel
theorem dX9_ones_14 : decode cX9_ones 14 = .ok (.isub, 1) := by decide +kernel
theorem dX9_ones_15 : decode cX9_ones 15 = .ok (.iand, 1) := by decide +kernel
theorem dX9_ones_16 : decode cX9_ones 16 = .ok (.istore_n 2, 1) := by decide +kernel
theorem dX9_ones_17 : decode cX9_ones 17 = .ok (.goto (-13), 3) := by decide +kernel
theorem dX9_ones_20 : decode cX9_ones 20 = .ok (.iload_n 1, 1) := by decide +kernel
theorem dX9_ones_21 : decode cX9_ones 21 = .ok (.ireturn, 1) := by decide +kernel
theorem dX9_wrongThree_0 : decode cX9_wrongThree 0 = .ok (.iload_n 1, 1) := by decide +kernel
theorem dX9_wrongThree_1 : decode cX9_wrongThree 1 = .ok (.i2l, 1) := by decide +kernel
theorem dX9_wrongThree_2 : decode cX9_wrongThree 2 = .ok (.lconst 0, 1) := by decide +kernel
theorem dX9_wrongThree_3 : decode cX9_wrongThree 3 = .ok (.iconst 1, 1) := by decide +kernel
theorem dX9_wrongThree_4 : decode cX9_wrongThree 4 = .ok (.aload_n 0, 1) := by decide +kernel
theorem dX9_wrongThree_5 : decode cX9_wrongThree 5 = .ok (.getfield 7, 3) := by decide +kernel
theorem dX9_wrongThree_8 : decode cX9_wrongThree 8 = .ok (.iconst 0, 1) := by decide +kernel
theorem dX9_wrongThree_9 : decode cX9_wrongThree 9 = .ok (.iaload, 1) := by decide +kernel
theorem dX9_wrongThree_10 : decode cX9_wrongThree 10 = .ok (.ishl, 1) := by decide +kernel
theorem dX9_wrongThree_11 : decode cX9_wrongThree 11 = .ok (.iconst 1, 1) := by decide +kernel
theorem dX9_wrongThree_12 : decode cX9_wrongThree 12 = .ok (.isub, 1) := by decide +kernel
theorem dX9_wrongThree_13 : decode cX9_wrongThree 13 = .ok (.i2l, 1) := by decide +kernel
theorem dX9_wrongThree_14 : decode cX9_wrongThree 14 = .ok (.invokestatic 54, 3) := by decide +kernel
theorem dX9_wrongThree_17 : decode cX9_wrongThree 17 = .ok (.ifCond .ne 8, 3) := by decide +kernel
theorem dX9_wrongThree_20 : decode cX9_wrongThree 20 = .ok (.ldc 51, 2) := by decide +kernel
theorem dX9_wrongThree_22 : decode cX9_wrongThree 22 = .ok (.goto 29, 3) := by decide +kernel
theorem dX9_wrongThree_25 : decode cX9_wrongThree 25 = .ok (.iload_n 1, 1) := by decide +kernel
theorem dX9_wrongThree_26 : decode cX9_wrongThree 26 = .ok (.invokestatic 167, 3) := by decide +kernel
theorem dX9_wrongThree_29 : decode cX9_wrongThree 29 = .ok (.iconst 3, 1) := by decide +kernel
theorem dX9_wrongThree_30 : decode cX9_wrongThree 30 = .ok (.if_icmp .eq 8, 3) := by decide +kernel
theorem dX9_wrongThree_33 : decode cX9_wrongThree 33 = .ok (.ldc 170, 2) := by decide +kernel
theorem dX9_wrongThree_35 : decode cX9_wrongThree 35 = .ok (.goto 16, 3) := by decide +kernel
theorem dX9_wrongThree_38 : decode cX9_wrongThree 38 = .ok (.aload_n 0, 1) := by decide +kernel
theorem dX9_wrongThree_39 : decode cX9_wrongThree 39 = .ok (.invokevirtual 147, 3) := by decide +kernel
theorem dX9_wrongThree_42 : decode cX9_wrongThree 42 = .ok (.ifCond .eq 8, 3) := by decide +kernel
theorem dX9_wrongThree_45 : decode cX9_wrongThree 45 = .ok (.ldc 128, 2) := by decide +kernel
theorem dX9_wrongThree_47 : decode cX9_wrongThree 47 = .ok (.goto 4, 3) := by decide +kernel
theorem dX9_wrongThree_50 : decode cX9_wrongThree 50 = .ok (.iconst 0, 1) := by decide +kernel
theorem dX9_wrongThree_51 : decode cX9_wrongThree 51 = .ok (.ireturn, 1) := by decide +kernel
theorem dX9_isWay_0 : decode cX9_isWay 0 = .ok (.iload_n 1, 1) := by decide +kernel
theorem dX9_isWay_1 : decode cX9_isWay 1 = .ok (.istore_n 3, 1) := by decide +kernel
theorem dX9_isWay_2 : decode cX9_isWay 2 = .ok (.bipush 7, 2) := by decide +kernel
theorem dX9_isWay_4 : decode cX9_isWay 4 = .ok (.istore 4, 2) := by decide +kernel
theorem dX9_isWay_6 : decode cX9_isWay 6 = .ok (.iload_n 2, 1) := by decide +kernel
theorem dX9_isWay_7 : decode cX9_isWay 7 = .ok (.istore 5, 2) := by decide +kernel
theorem dX9_isWay_9 : decode cX9_isWay 9 = .ok (.iconst 1, 1) := by decide +kernel
theorem dX9_isWay_10 : decode cX9_isWay 10 = .ok (.istore 6, 2) := by decide +kernel
theorem dX9_isWay_12 : decode cX9_isWay 12 = .ok (.iconst 2, 1) := by decide +kernel
theorem dX9_isWay_13 : decode cX9_isWay 13 = .ok (.istore 7, 2) := by decide +kernel
theorem dX9_isWay_15 : decode cX9_isWay 15 = .ok (.iload 7, 2) := by decide +kernel
theorem dX9_isWay_17 : decode cX9_isWay 17 = .ok (.ifCond .lt 28, 3) := by decide +kernel
theorem dX9_isWay_20 : decode cX9_isWay 20 = .ok (.aload_n 0, 1) := by decide +kernel
theorem dX9_isWay_21 : decode cX9_isWay 21 = .ok (.getfield 25, 3) := by decide +kernel
theorem dX9_isWay_24 : decode cX9_isWay 24 = .ok (.iload 7, 2) := by decide +kernel
theorem dX9_isWay_26 : decode cX9_isWay 26 = .ok (.iload 5, 2) := by decide +kernel
theorem dX9_isWay_28 : decode cX9_isWay 28 = .ok (.bipush 18, 2) := by decide +kernel
theorem dX9_isWay_30 : decode cX9_isWay 30 = .ok (.irem, 1) := by decide +kernel
theorem dX9_isWay_31 : decode cX9_isWay 31 = .ok (.iastore, 1) := by decide +kernel
theorem dX9_isWay_32 : decode cX9_isWay 32 = .ok (.iload 5, 2) := by decide +kernel
theorem dX9_isWay_34 : decode cX9_isWay 34 = .ok (.bipush 18, 2) := by decide +kernel
theorem dX9_isWay_36 : decode cX9_isWay 36 = .ok (.idiv, 1) := by decide +kernel
theorem dX9_isWay_37 : decode cX9_isWay 37 = .ok (.istore 5, 2) := by decide +kernel
theorem dX9_isWay_39 : decode cX9_isWay 39 = .ok (.iinc 7 (-1), 3) := by decide +kernel
theorem dX9_isWay_42 : decode cX9_isWay 42 = .ok (.goto (-27), 3) := by decide +kernel
theorem dX9_isWay_45 : decode cX9_isWay 45 = .ok (.iconst 0, 1) := by decide +kernel
theorem dX9_isWay_46 : decode cX9_isWay 46 = .ok (.istore 7, 2) := by decide +kernel
theorem dX9_isWay_48 : decode cX9_isWay 48 = .ok (.iload 7, 2) := by decide +kernel
theorem dX9_isWay_50 : decode cX9_isWay 50 = .ok (.iconst 3, 1) := by decide +kernel
theorem dX9_isWay_51 : decode cX9_isWay 51 = .ok (.if_icmp .ge 84, 3) := by decide +kernel
theorem dX9_isWay_54 : decode cX9_isWay 54 = .ok (.aload_n 0, 1) := by decide +kernel
theorem dX9_isWay_55 : decode cX9_isWay 55 = .ok (.getfield 25, 3) := by decide +kernel
theorem dX9_isWay_58 : decode cX9_isWay 58 = .ok (.iload 7, 2) := by decide +kernel
theorem dX9_isWay_60 : decode cX9_isWay 60 = .ok (.iaload, 1) := by decide +kernel
theorem dX9_isWay_61 : decode cX9_isWay 61 = .ok (.iconst 3, 1) := by decide +kernel
theorem dX9_isWay_62 : decode cX9_isWay 62 = .ok (.idiv, 1) := by decide +kernel
theorem dX9_isWay_63 : decode cX9_isWay 63 = .ok (.istore 8, 2) := by decide +kernel
theorem dX9_isWay_65 : decode cX9_isWay 65 = .ok (.aload_n 0, 1) := by decide +kernel
theorem dX9_isWay_66 : decode cX9_isWay 66 = .ok (.getfield 25, 3) := by decide +kernel
theorem dX9_isWay_69 : decode cX9_isWay 69 = .ok (.iload 7, 2) := by decide +kernel
theorem dX9_isWay_71 : decode cX9_isWay 71 = .ok (.iaload, 1) := by decide +kernel
theorem dX9_isWay_72 : decode cX9_isWay 72 = .ok (.iconst 3, 1) := by decide +kernel
theorem dX9_isWay_73 : decode cX9_isWay 73 = .ok (.irem, 1) := by decide +kernel
theorem dX9_isWay_74 : decode cX9_isWay 74 = .ok (.istore 9, 2) := by decide +kernel
theorem dX9_isWay_76 : decode cX9_isWay 76 = .ok (.iload 6, 2) := by decide +kernel
theorem dX9_isWay_78 : decode cX9_isWay 78 = .ok (.ifCond .eq 28, 3) := by decide +kernel
theorem dX9_isWay_81 : decode cX9_isWay 81 = .ok (.iload_n 3, 1) := by decide +kernel
theorem dX9_isWay_82 : decode cX9_isWay 82 = .ok (.iload 8, 2) := by decide +kernel
theorem dX9_isWay_84 : decode cX9_isWay 84 = .ok (.ishr, 1) := by decide +kernel
theorem dX9_isWay_85 : decode cX9_isWay 85 = .ok (.iconst 1, 1) := by decide +kernel
theorem dX9_isWay_86 : decode cX9_isWay 86 = .ok (.iand, 1) := by decide +kernel
theorem dX9_isWay_87 : decode cX9_isWay 87 = .ok (.iconst 1, 1) := by decide +kernel
theorem dX9_isWay_88 : decode cX9_isWay 88 = .ok (.if_icmp .ne 18, 3) := by decide +kernel
theorem dX9_isWay_91 : decode cX9_isWay 91 = .ok (.iload 4, 2) := by decide +kernel
theorem dX9_isWay_93 : decode cX9_isWay 93 = .ok (.iload 9, 2) := by decide +kernel
theorem dX9_isWay_95 : decode cX9_isWay 95 = .ok (.ishr, 1) := by decide +kernel
theorem dX9_isWay_96 : decode cX9_isWay 96 = .ok (.iconst 1, 1) := by decide +kernel
theorem dX9_isWay_97 : decode cX9_isWay 97 = .ok (.iand, 1) := by decide +kernel
theorem dX9_isWay_98 : decode cX9_isWay 98 = .ok (.iconst 1, 1) := by decide +kernel
theorem dX9_isWay_99 : decode cX9_isWay 99 = .ok (.if_icmp .ne 7, 3) := by decide +kernel
theorem dX9_isWay_102 : decode cX9_isWay 102 = .ok (.iconst 1, 1) := by decide +kernel
theorem dX9_isWay_103 : decode cX9_isWay 103 = .ok (.goto 4, 3) := by decide +kernel
theorem dX9_isWay_106 : decode cX9_isWay 106 = .ok (.iconst 0, 1) := by decide +kernel
theorem dX9_isWay_107 : decode cX9_isWay 107 = .ok (.istore 6, 2) := by decide +kernel
theorem dX9_isWay_109 : decode cX9_isWay 109 = .ok (.iload_n 3, 1) := by decide +kernel
theorem dX9_isWay_110 : decode cX9_isWay 110 = .ok (.iconst 1, 1) := by decide +kernel
theorem dX9_isWay_111 : decode cX9_isWay 111 = .ok (.iload 8, 2) := by decide +kernel
theorem dX9_isWay_113 : decode cX9_isWay 113 = .ok (.ishl, 1) := by decide +kernel
theorem dX9_isWay_114 : decode cX9_isWay 114 = .ok (.iconst (-1), 1) := by decide +kernel
theorem dX9_isWay_115 : decode cX9_isWay 115 = .ok (.ixor, 1) := by decide +kernel
theorem dX9_isWay_116 : decode cX9_isWay 116 = .ok (.iand, 1) := by decide +kernel
theorem dX9_isWay_117 : decode cX9_isWay 117 = .ok (.istore_n 3, 1) := by decide +kernel
theorem dX9_isWay_118 : decode cX9_isWay 118 = .ok (.iload 4, 2) := by decide +kernel
theorem dX9_isWay_120 : decode cX9_isWay 120 = .ok (.iconst 1, 1) := by decide +kernel
theorem dX9_isWay_121 : decode cX9_isWay 121 = .ok (.iload 9, 2) := by decide +kernel
theorem dX9_isWay_123 : decode cX9_isWay 123 = .ok (.ishl, 1) := by decide +kernel
theorem dX9_isWay_124 : decode cX9_isWay 124 = .ok (.iconst (-1), 1) := by decide +kernel
theorem dX9_isWay_125 : decode cX9_isWay 125 = .ok (.ixor, 1) := by decide +kernel
theorem dX9_isWay_126 : decode cX9_isWay 126 = .ok (.iand, 1) := by decide +kernel
theorem dX9_isWay_127 : decode cX9_isWay 127 = .ok (.istore 4, 2) := by decide +kernel
theorem dX9_isWay_129 : decode cX9_isWay 129 = .ok (.iinc 7 1, 3) := by decide +kernel
theorem dX9_isWay_132 : decode cX9_isWay 132 = .ok (.goto (-84), 3) := by decide +kernel
theorem dX9_isWay_135 : decode cX9_isWay 135 = .ok (.iload 6, 2) := by decide +kernel
theorem dX9_isWay_137 : decode cX9_isWay 137 = .ok (.ireturn, 1) := by decide +kernel
theorem dX9_findWay_0 : decode cX9_findWay 0 = .ok (.aload_n 0, 1) := by decide +kernel
theorem dX9_findWay_1 : decode cX9_findWay 1 = .ok (.iconst (-1), 1) := by decide +kernel
theorem dX9_findWay_2 : decode cX9_findWay 2 = .ok (.putfield 171, 3) := by decide +kernel
theorem dX9_findWay_5 : decode cX9_findWay 5 = .ok (.aload_n 0, 1) := by decide +kernel
theorem dX9_findWay_6 : decode cX9_findWay 6 = .ok (.invokevirtual 154, 3) := by decide +kernel
theorem dX9_findWay_9 : decode cX9_findWay 9 = .ok (.iconst 0, 1) := by decide +kernel
theorem dX9_findWay_10 : decode cX9_findWay 10 = .ok (.istore_n 2, 1) := by decide +kernel
theorem dX9_findWay_11 : decode cX9_findWay 11 = .ok (.iload_n 2, 1) := by decide +kernel
theorem dX9_findWay_12 : decode cX9_findWay 12 = .ok (.sipush 5832, 3) := by decide +kernel
theorem dX9_findWay_15 : decode cX9_findWay 15 = .ok (.if_icmp .ge 139, 3) := by decide +kernel
theorem dX9_findWay_18 : decode cX9_findWay 18 = .ok (.aload_n 0, 1) := by decide +kernel
theorem dX9_findWay_19 : decode cX9_findWay 19 = .ok (.iload_n 1, 1) := by decide +kernel
theorem dX9_findWay_20 : decode cX9_findWay 20 = .ok (.iload_n 2, 1) := by decide +kernel
theorem dX9_findWay_21 : decode cX9_findWay 21 = .ok (.invokevirtual 175, 3) := by decide +kernel
theorem dX9_findWay_24 : decode cX9_findWay 24 = .ok (.ifCond .eq 124, 3) := by decide +kernel
theorem dX9_findWay_27 : decode cX9_findWay 27 = .ok (.iconst 0, 1) := by decide +kernel
theorem dX9_findWay_28 : decode cX9_findWay 28 = .ok (.istore_n 3, 1) := by decide +kernel
theorem dX9_findWay_29 : decode cX9_findWay 29 = .ok (.iconst 0, 1) := by decide +kernel
theorem dX9_findWay_30 : decode cX9_findWay 30 = .ok (.istore 4, 2) := by decide +kernel
theorem dX9_findWay_32 : decode cX9_findWay 32 = .ok (.iload 4, 2) := by decide +kernel
theorem dX9_findWay_34 : decode cX9_findWay 34 = .ok (.iconst 3, 1) := by decide +kernel
theorem dX9_findWay_35 : decode cX9_findWay 35 = .ok (.if_icmp .ge 34, 3) := by decide +kernel
theorem dX9_findWay_38 : decode cX9_findWay 38 = .ok (.iload_n 3, 1) := by decide +kernel
theorem dX9_findWay_39 : decode cX9_findWay 39 = .ok (.aload_n 0, 1) := by decide +kernel
theorem dX9_findWay_40 : decode cX9_findWay 40 = .ok (.aload_n 0, 1) := by decide +kernel
theorem dX9_findWay_41 : decode cX9_findWay 41 = .ok (.getfield 25, 3) := by decide +kernel
theorem dX9_findWay_44 : decode cX9_findWay 44 = .ok (.iload 4, 2) := by decide +kernel
theorem dX9_findWay_46 : decode cX9_findWay 46 = .ok (.iaload, 1) := by decide +kernel
theorem dX9_findWay_47 : decode cX9_findWay 47 = .ok (.iconst 3, 1) := by decide +kernel
theorem dX9_findWay_48 : decode cX9_findWay 48 = .ok (.idiv, 1) := by decide +kernel
theorem dX9_findWay_49 : decode cX9_findWay 49 = .ok (.aload_n 0, 1) := by decide +kernel
theorem dX9_findWay_50 : decode cX9_findWay 50 = .ok (.getfield 25, 3) := by decide +kernel
theorem dX9_findWay_53 : decode cX9_findWay 53 = .ok (.iload 4, 2) := by decide +kernel
theorem dX9_findWay_55 : decode cX9_findWay 55 = .ok (.iaload, 1) := by decide +kernel
theorem dX9_findWay_56 : decode cX9_findWay 56 = .ok (.iconst 3, 1) := by decide +kernel
theorem dX9_findWay_57 : decode cX9_findWay 57 = .ok (.irem, 1) := by decide +kernel
theorem dX9_findWay_58 : decode cX9_findWay 58 = .ok (.invokevirtual 129, 3) := by decide +kernel
theorem dX9_findWay_61 : decode cX9_findWay 61 = .ok (.iadd, 1) := by decide +kernel
theorem dX9_findWay_62 : decode cX9_findWay 62 = .ok (.istore_n 3, 1) := by decide +kernel
theorem dX9_findWay_63 : decode cX9_findWay 63 = .ok (.iinc 4 1, 3) := by decide +kernel
theorem dX9_findWay_66 : decode cX9_findWay 66 = .ok (.goto (-34), 3) := by decide +kernel
theorem dX9_findWay_69 : decode cX9_findWay 69 = .ok (.aload_n 0, 1) := by decide +kernel
theorem dX9_findWay_70 : decode cX9_findWay 70 = .ok (.iload_n 3, 1) := by decide +kernel
theorem dX9_findWay_71 : decode cX9_findWay 71 = .ok (.invokevirtual 157, 3) := by decide +kernel
theorem dX9_findWay_74 : decode cX9_findWay 74 = .ok (.istore_n 3, 1) := by decide +kernel
theorem dX9_findWay_75 : decode cX9_findWay 75 = .ok (.aload_n 0, 1) := by decide +kernel
theorem dX9_findWay_76 : decode cX9_findWay 76 = .ok (.getfield 171, 3) := by decide +kernel
theorem dX9_findWay_79 : decode cX9_findWay 79 = .ok (.ifCond .lt 11, 3) := by decide +kernel
theorem dX9_findWay_82 : decode cX9_findWay 82 = .ok (.iload_n 3, 1) := by decide +kernel
theorem dX9_findWay_83 : decode cX9_findWay 83 = .ok (.aload_n 0, 1) := by decide +kernel
theorem dX9_findWay_84 : decode cX9_findWay 84 = .ok (.getfield 171, 3) := by decide +kernel
theorem dX9_findWay_87 : decode cX9_findWay 87 = .ok (.if_icmp .ge 7, 3) := by decide +kernel
theorem dX9_findWay_90 : decode cX9_findWay 90 = .ok (.iconst 1, 1) := by decide +kernel
theorem dX9_findWay_91 : decode cX9_findWay 91 = .ok (.goto 4, 3) := by decide +kernel
theorem dX9_findWay_94 : decode cX9_findWay 94 = .ok (.iconst 0, 1) := by decide +kernel
theorem dX9_findWay_95 : decode cX9_findWay 95 = .ok (.istore 4, 2) := by decide +kernel
theorem dX9_findWay_97 : decode cX9_findWay 97 = .ok (.aload_n 0, 1) := by decide +kernel
theorem dX9_findWay_98 : decode cX9_findWay 98 = .ok (.iload 4, 2) := by decide +kernel
theorem dX9_findWay_100 : decode cX9_findWay 100 = .ok (.ifCond .eq 7, 3) := by decide +kernel
theorem dX9_findWay_103 : decode cX9_findWay 103 = .ok (.iload_n 3, 1) := by decide +kernel
theorem dX9_findWay_104 : decode cX9_findWay 104 = .ok (.goto 7, 3) := by decide +kernel
theorem dX9_findWay_107 : decode cX9_findWay 107 = .ok (.aload_n 0, 1) := by decide +kernel
theorem dX9_findWay_108 : decode cX9_findWay 108 = .ok (.getfield 171, 3) := by decide +kernel
theorem dX9_findWay_111 : decode cX9_findWay 111 = .ok (.putfield 171, 3) := by decide +kernel
theorem dX9_findWay_114 : decode cX9_findWay 114 = .ok (.iconst 0, 1) := by decide +kernel
theorem dX9_findWay_115 : decode cX9_findWay 115 = .ok (.istore 5, 2) := by decide +kernel
theorem dX9_findWay_117 : decode cX9_findWay 117 = .ok (.iload 5, 2) := by decide +kernel
theorem dX9_findWay_119 : decode cX9_findWay 119 = .ok (.iconst 3, 1) := by decide +kernel
theorem dX9_findWay_120 : decode cX9_findWay 120 = .ok (.if_icmp .ge 28, 3) := by decide +kernel
theorem dX9_findWay_123 : decode cX9_findWay 123 = .ok (.iload 4, 2) := by decide +kernel
theorem dX9_findWay_125 : decode cX9_findWay 125 = .ok (.ifCond .eq 23, 3) := by decide +kernel
theorem dX9_findWay_128 : decode cX9_findWay 128 = .ok (.aload_n 0, 1) := by decide +kernel
theorem dX9_findWay_129 : decode cX9_findWay 129 = .ok (.getfield 28, 3) := by decide +kernel
theorem dX9_findWay_132 : decode cX9_findWay 132 = .ok (.iload 5, 2) := by decide +kernel
theorem dX9_findWay_134 : decode cX9_findWay 134 = .ok (.aload_n 0, 1) := by decide +kernel
theorem dX9_findWay_135 : decode cX9_findWay 135 = .ok (.getfield 25, 3) := by decide +kernel
theorem dX9_findWay_138 : decode cX9_findWay 138 = .ok (.iload 5, 2) := by decide +kernel
theorem dX9_findWay_140 : decode cX9_findWay 140 = .ok (.iaload, 1) := by decide +kernel
theorem dX9_findWay_141 : decode cX9_findWay 141 = .ok (.iastore, 1) := by decide +kernel
theorem dX9_findWay_142 : decode cX9_findWay 142 = .ok (.iinc 5 1, 3) := by decide +kernel
theorem dX9_findWay_145 : decode cX9_findWay 145 = .ok (.goto (-28), 3) := by decide +kernel
theorem dX9_findWay_148 : decode cX9_findWay 148 = .ok (.iinc 2 1, 3) := by decide +kernel
theorem dX9_findWay_151 : decode cX9_findWay 151 = .ok (.goto (-140), 3) := by decide +kernel
theorem dX9_findWay_154 : decode cX9_findWay 154 = .ok (.return_, 1) := by decide +kernel
theorem dX9_all_0 : decode cX9_all 0 = .ok (.aload_n 0, 1) := by decide +kernel
theorem dX9_all_1 : decode cX9_all 1 = .ok (.iload_n 1, 1) := by decide +kernel
theorem dX9_all_2 : decode cX9_all 2 = .ok (.invokevirtual 178, 3) := by decide +kernel
theorem dX9_all_5 : decode cX9_all 5 = .ok (.istore_n 2, 1) := by decide +kernel
theorem dX9_all_6 : decode cX9_all 6 = .ok (.iload_n 2, 1) := by decide +kernel
theorem dX9_all_7 : decode cX9_all 7 = .ok (.ifCond .eq 9, 3) := by decide +kernel
theorem dX9_all_10 : decode cX9_all 10 = .ok (.aload_n 0, 1) := by decide +kernel
theorem dX9_all_11 : decode cX9_all 11 = .ok (.iload_n 2, 1) := by decide +kernel
theorem dX9_all_12 : decode cX9_all 12 = .ok (.invokevirtual 75, 3) := by decide +kernel
theorem dX9_all_15 : decode cX9_all 15 = .ok (.ireturn, 1) := by decide +kernel
theorem dX9_all_16 : decode cX9_all 16 = .ok (.aload_n 0, 1) := by decide +kernel
theorem dX9_all_17 : decode cX9_all 17 = .ok (.iload_n 1, 1) := by decide +kernel
theorem dX9_all_18 : decode cX9_all 18 = .ok (.invokevirtual 181, 3) := by decide +kernel
theorem dX9_all_21 : decode cX9_all 21 = .ok (.aload_n 0, 1) := by decide +kernel
theorem dX9_all_22 : decode cX9_all 22 = .ok (.getfield 171, 3) := by decide +kernel
theorem dX9_all_25 : decode cX9_all 25 = .ok (.ireturn, 1) := by decide +kernel
theorem dX9_way_0 : decode cX9_way 0 = .ok (.iload_n 2, 1) := by decide +kernel
theorem dX9_way_1 : decode cX9_way 1 = .ok (.i2l, 1) := by decide +kernel
theorem dX9_way_2 : decode cX9_way 2 = .ok (.lconst 0, 1) := by decide +kernel
theorem dX9_way_3 : decode cX9_way 3 = .ok (.ldc2_w 52, 3) := by decide +kernel
theorem dX9_way_6 : decode cX9_way 6 = .ok (.invokestatic 54, 3) := by decide +kernel
theorem dX9_way_9 : decode cX9_way 9 = .ok (.ifCond .eq 11, 3) := by decide +kernel
theorem dX9_way_12 : decode cX9_way 12 = .ok (.aload_n 0, 1) := by decide +kernel
theorem dX9_way_13 : decode cX9_way 13 = .ok (.iload_n 1, 1) := by decide +kernel
theorem dX9_way_14 : decode cX9_way 14 = .ok (.invokevirtual 178, 3) := by decide +kernel
theorem dX9_way_17 : decode cX9_way 17 = .ok (.goto 5, 3) := by decide +kernel
theorem dX9_way_20 : decode cX9_way 20 = .ok (.ldc 51, 2) := by decide +kernel
theorem dX9_way_22 : decode cX9_way 22 = .ok (.istore_n 3, 1) := by decide +kernel
theorem dX9_way_23 : decode cX9_way 23 = .ok (.iload_n 3, 1) := by decide +kernel
theorem dX9_way_24 : decode cX9_way 24 = .ok (.ifCond .eq 9, 3) := by decide +kernel
theorem dX9_way_27 : decode cX9_way 27 = .ok (.aload_n 0, 1) := by decide +kernel
theorem dX9_way_28 : decode cX9_way 28 = .ok (.iload_n 3, 1) := by decide +kernel
theorem dX9_way_29 : decode cX9_way 29 = .ok (.invokevirtual 75, 3) := by decide +kernel
theorem dX9_way_32 : decode cX9_way 32 = .ok (.ireturn, 1) := by decide +kernel
theorem dX9_way_33 : decode cX9_way 33 = .ok (.aload_n 0, 1) := by decide +kernel
theorem dX9_way_34 : decode cX9_way 34 = .ok (.iload_n 1, 1) := by decide +kernel
theorem dX9_way_35 : decode cX9_way 35 = .ok (.invokevirtual 181, 3) := by decide +kernel
theorem dX9_way_38 : decode cX9_way 38 = .ok (.bipush 10, 2) := by decide +kernel
theorem dX9_way_40 : decode cX9_way 40 = .ok (.aload_n 0, 1) := by decide +kernel
theorem dX9_way_41 : decode cX9_way 41 = .ok (.getfield 28, 3) := by decide +kernel
theorem dX9_way_44 : decode cX9_way 44 = .ok (.iload_n 2, 1) := by decide +kernel
theorem dX9_way_45 : decode cX9_way 45 = .ok (.iaload, 1) := by decide +kernel
theorem dX9_way_46 : decode cX9_way 46 = .ok (.iconst 3, 1) := by decide +kernel
theorem dX9_way_47 : decode cX9_way 47 = .ok (.idiv, 1) := by decide +kernel
theorem dX9_way_48 : decode cX9_way 48 = .ok (.imul, 1) := by decide +kernel
theorem dX9_way_49 : decode cX9_way 49 = .ok (.aload_n 0, 1) := by decide +kernel
theorem dX9_way_50 : decode cX9_way 50 = .ok (.getfield 28, 3) := by decide +kernel
theorem dX9_way_53 : decode cX9_way 53 = .ok (.iload_n 2, 1) := by decide +kernel
theorem dX9_way_54 : decode cX9_way 54 = .ok (.iaload, 1) := by decide +kernel
theorem dX9_way_55 : decode cX9_way 55 = .ok (.iconst 3, 1) := by decide +kernel
theorem dX9_way_56 : decode cX9_way 56 = .ok (.irem, 1) := by decide +kernel
theorem dX9_way_57 : decode cX9_way 57 = .ok (.iadd, 1) := by decide +kernel
theorem dX9_way_58 : decode cX9_way 58 = .ok (.ireturn, 1) := by decide +kernel
theorem dX9_kind_0 : decode cX9_kind 0 = .ok (.aload_n 0, 1) := by decide +kernel
theorem dX9_kind_1 : decode cX9_kind 1 = .ok (.iload_n 1, 1) := by decide +kernel
theorem dX9_kind_2 : decode cX9_kind 2 = .ok (.invokevirtual 100, 3) := by decide +kernel
theorem dX9_kind_5 : decode cX9_kind 5 = .ok (.ifCond .eq 10, 3) := by decide +kernel
theorem dX9_kind_8 : decode cX9_kind 8 = .ok (.iload_n 2, 1) := by decide +kernel
theorem dX9_kind_9 : decode cX9_kind 9 = .ok (.invokestatic 68, 3) := by decide +kernel
theorem dX9_kind_12 : decode cX9_kind 12 = .ok (.ifCond .ne 10, 3) := by decide +kernel
theorem dX9_kind_15 : decode cX9_kind 15 = .ok (.aload_n 0, 1) := by decide +kernel
theorem dX9_kind_16 : decode cX9_kind 16 = .ok (.ldc 51, 2) := by decide +kernel
theorem dX9_kind_18 : decode cX9_kind 18 = .ok (.invokevirtual 75, 3) := by decide +kernel
theorem dX9_kind_21 : decode cX9_kind 21 = .ok (.ireturn, 1) := by decide +kernel
theorem dX9_kind_22 : decode cX9_kind 22 = .ok (.aload_n 0, 1) := by decide +kernel
theorem dX9_kind_23 : decode cX9_kind 23 = .ok (.iload_n 1, 1) := by decide +kernel
theorem dX9_kind_24 : decode cX9_kind 24 = .ok (.iconst 0, 1) := by decide +kernel
theorem dX9_kind_25 : decode cX9_kind 25 = .ok (.invokevirtual 94, 3) := by decide +kernel
theorem dX9_kind_28 : decode cX9_kind 28 = .ok (.istore_n 3, 1) := by decide +kernel
theorem dX9_kind_29 : decode cX9_kind 29 = .ok (.iconst 0, 1) := by decide +kernel
theorem dX9_kind_30 : decode cX9_kind 30 = .ok (.istore 4, 2) := by decide +kernel
theorem dX9_kind_32 : decode cX9_kind 32 = .ok (.ldc 124, 2) := by decide +kernel
theorem dX9_kind_34 : decode cX9_kind 34 = .ok (.istore 5, 2) := by decide +kernel
theorem dX9_kind_36 : decode cX9_kind 36 = .ok (.iconst 0, 1) := by decide +kernel
theorem dX9_kind_37 : decode cX9_kind 37 = .ok (.istore 6, 2) := by decide +kernel
theorem dX9_kind_39 : decode cX9_kind 39 = .ok (.iload 6, 2) := by decide +kernel
theorem dX9_kind_41 : decode cX9_kind 41 = .ok (.iconst 5, 1) := by decide +kernel
theorem dX9_kind_42 : decode cX9_kind 42 = .ok (.if_icmp .gt 61, 3) := by decide +kernel
theorem dX9_kind_45 : decode cX9_kind 45 = .ok (.aload_n 0, 1) := by decide +kernel
theorem dX9_kind_46 : decode cX9_kind 46 = .ok (.getfield 7, 3) := by decide +kernel
theorem dX9_kind_49 : decode cX9_kind 49 = .ok (.iload_n 1, 1) := by decide +kernel
theorem dX9_kind_50 : decode cX9_kind 50 = .ok (.iconst 0, 1) := by decide +kernel
theorem dX9_kind_51 : decode cX9_kind 51 = .ok (.invokestatic 60, 3) := by decide +kernel
theorem dX9_kind_54 : decode cX9_kind 54 = .ok (.iload 6, 2) := by decide +kernel
theorem dX9_kind_56 : decode cX9_kind 56 = .ok (.iastore, 1) := by decide +kernel
theorem dX9_kind_57 : decode cX9_kind 57 = .ok (.aload_n 0, 1) := by decide +kernel
theorem dX9_kind_58 : decode cX9_kind 58 = .ok (.iload_n 1, 1) := by decide +kernel
theorem dX9_kind_59 : decode cX9_kind 59 = .ok (.iload_n 2, 1) := by decide +kernel
theorem dX9_kind_60 : decode cX9_kind 60 = .ok (.invokevirtual 118, 3) := by decide +kernel
theorem dX9_kind_63 : decode cX9_kind 63 = .ok (.istore 7, 2) := by decide +kernel
theorem dX9_kind_65 : decode cX9_kind 65 = .ok (.iload 7, 2) := by decide +kernel
theorem dX9_kind_67 : decode cX9_kind 67 = .ok (.iload 5, 2) := by decide +kernel
theorem dX9_kind_69 : decode cX9_kind 69 = .ok (.if_icmp .ge 8, 3) := by decide +kernel
theorem dX9_kind_72 : decode cX9_kind 72 = .ok (.iload 6, 2) := by decide +kernel
theorem dX9_kind_74 : decode cX9_kind 74 = .ok (.goto 5, 3) := by decide +kernel
theorem dX9_kind_77 : decode cX9_kind 77 = .ok (.iload 4, 2) := by decide +kernel
theorem dX9_kind_79 : decode cX9_kind 79 = .ok (.istore 4, 2) := by decide +kernel
theorem dX9_kind_81 : decode cX9_kind 81 = .ok (.iload 7, 2) := by decide +kernel
theorem dX9_kind_83 : decode cX9_kind 83 = .ok (.iload 5, 2) := by decide +kernel
theorem dX9_kind_85 : decode cX9_kind 85 = .ok (.if_icmp .ge 8, 3) := by decide +kernel
theorem dX9_kind_88 : decode cX9_kind 88 = .ok (.iload 7, 2) := by decide +kernel
theorem dX9_kind_90 : decode cX9_kind 90 = .ok (.goto 5, 3) := by decide +kernel
theorem dX9_kind_93 : decode cX9_kind 93 = .ok (.iload 5, 2) := by decide +kernel
theorem dX9_kind_95 : decode cX9_kind 95 = .ok (.istore 5, 2) := by decide +kernel
theorem dX9_kind_97 : decode cX9_kind 97 = .ok (.iinc 6 1, 3) := by decide +kernel
theorem dX9_kind_100 : decode cX9_kind 100 = .ok (.goto (-61), 3) := by decide +kernel
theorem dX9_kind_103 : decode cX9_kind 103 = .ok (.aload_n 0, 1) := by decide +kernel
theorem dX9_kind_104 : decode cX9_kind 104 = .ok (.getfield 7, 3) := by decide +kernel
theorem dX9_kind_107 : decode cX9_kind 107 = .ok (.iload_n 1, 1) := by decide +kernel
theorem dX9_kind_108 : decode cX9_kind 108 = .ok (.iconst 0, 1) := by decide +kernel
theorem dX9_kind_109 : decode cX9_kind 109 = .ok (.invokestatic 60, 3) := by decide +kernel
theorem dX9_kind_112 : decode cX9_kind 112 = .ok (.iload_n 3, 1) := by decide +kernel
theorem dX9_kind_113 : decode cX9_kind 113 = .ok (.iastore, 1) := by decide +kernel
theorem dX9_kind_114 : decode cX9_kind 114 = .ok (.iload 4, 2) := by decide +kernel
theorem dX9_kind_116 : decode cX9_kind 116 = .ok (.ireturn, 1) := by decide +kernel
theorem dX9_wrongStay_0 : decode cX9_wrongStay 0 = .ok (.aload_n 0, 1) := by decide +kernel
theorem dX9_wrongStay_1 : decode cX9_wrongStay 1 = .ok (.iload_n 1, 1) := by decide +kernel
theorem dX9_wrongStay_2 : decode cX9_wrongStay 2 = .ok (.invokevirtual 100, 3) := by decide +kernel
theorem dX9_wrongStay_5 : decode cX9_wrongStay 5 = .ok (.ifCond .eq 15, 3) := by decide +kernel
theorem dX9_wrongStay_8 : decode cX9_wrongStay 8 = .ok (.iload_n 2, 1) := by decide +kernel
theorem dX9_wrongStay_9 : decode cX9_wrongStay 9 = .ok (.i2l, 1) := by decide +kernel
theorem dX9_wrongStay_10 : decode cX9_wrongStay 10 = .ok (.lconst 1, 1) := by decide +kernel
theorem dX9_wrongStay_11 : decode cX9_wrongStay 11 = .ok (.ldc2_w 142, 3) := by decide +kernel
theorem dX9_wrongStay_14 : decode cX9_wrongStay 14 = .ok (.invokestatic 54, 3) := by decide +kernel
theorem dX9_wrongStay_17 : decode cX9_wrongStay 17 = .ok (.ifCond .ne 8, 3) := by decide +kernel
theorem dX9_wrongStay_20 : decode cX9_wrongStay 20 = .ok (.ldc 51, 2) := by decide +kernel
theorem dX9_wrongStay_22 : decode cX9_wrongStay 22 = .ok (.goto 17, 3) := by decide +kernel
theorem dX9_wrongStay_25 : decode cX9_wrongStay 25 = .ok (.aload_n 0, 1) := by decide +kernel
theorem dX9_wrongStay_26 : decode cX9_wrongStay 26 = .ok (.iload_n 1, 1) := by decide +kernel
theorem dX9_wrongStay_27 : decode cX9_wrongStay 27 = .ok (.invokevirtual 91, 3) := by decide +kernel
theorem dX9_wrongStay_30 : decode cX9_wrongStay 30 = .ok (.ifCond .ge 8, 3) := by decide +kernel
theorem dX9_wrongStay_33 : decode cX9_wrongStay 33 = .ok (.ldc 128, 2) := by decide +kernel
theorem dX9_wrongStay_35 : decode cX9_wrongStay 35 = .ok (.goto 4, 3) := by decide +kernel
theorem dX9_wrongStay_38 : decode cX9_wrongStay 38 = .ok (.iconst 0, 1) := by decide +kernel
theorem dX9_wrongStay_39 : decode cX9_wrongStay 39 = .ok (.ireturn, 1) := by decide +kernel
theorem dX9_isInStill_0 : decode cX9_isInStill 0 = .ok (.aload_n 0, 1) := by decide +kernel
theorem dX9_isInStill_1 : decode cX9_isInStill 1 = .ok (.invokevirtual 154, 3) := by decide +kernel
theorem dX9_isInStill_4 : decode cX9_isInStill 4 = .ok (.aload_n 0, 1) := by decide +kernel
theorem dX9_isInStill_5 : decode cX9_isInStill 5 = .ok (.iload_n 2, 1) := by decide +kernel
theorem dX9_isInStill_6 : decode cX9_isInStill 6 = .ok (.invokevirtual 144, 3) := by decide +kernel
theorem dX9_isInStill_9 : decode cX9_isInStill 9 = .ok (.aload_n 0, 1) := by decide +kernel
theorem dX9_isInStill_10 : decode cX9_isInStill 10 = .ok (.aload_n 0, 1) := by decide +kernel
theorem dX9_isInStill_11 : decode cX9_isInStill 11 = .ok (.iload_n 1, 1) := by decide +kernel
theorem dX9_isInStill_12 : decode cX9_isInStill 12 = .ok (.invokevirtual 91, 3) := by decide +kernel
theorem dX9_isInStill_15 : decode cX9_isInStill 15 = .ok (.ifCond .lt 7, 3) := by decide +kernel
theorem dX9_isInStill_18 : decode cX9_isInStill 18 = .ok (.iconst 1, 1) := by decide +kernel
theorem dX9_isInStill_19 : decode cX9_isInStill 19 = .ok (.goto 4, 3) := by decide +kernel
theorem dX9_isInStill_22 : decode cX9_isInStill 22 = .ok (.iconst 0, 1) := by decide +kernel
theorem dX9_isInStill_23 : decode cX9_isInStill 23 = .ok (.invokevirtual 157, 3) := by decide +kernel
theorem dX9_isInStill_26 : decode cX9_isInStill 26 = .ok (.iconst 1, 1) := by decide +kernel
theorem dX9_isInStill_27 : decode cX9_isInStill 27 = .ok (.if_icmp .ne 7, 3) := by decide +kernel
theorem dX9_isInStill_30 : decode cX9_isInStill 30 = .ok (.iconst 1, 1) := by decide +kernel
theorem dX9_isInStill_31 : decode cX9_isInStill 31 = .ok (.goto 4, 3) := by decide +kernel
theorem dX9_isInStill_34 : decode cX9_isInStill 34 = .ok (.iconst 0, 1) := by decide +kernel
theorem dX9_isInStill_35 : decode cX9_isInStill 35 = .ok (.ireturn, 1) := by decide +kernel
theorem dX9_bribes_0 : decode cX9_bribes 0 = .ok (.aload_n 0, 1) := by decide +kernel
theorem dX9_bribes_1 : decode cX9_bribes 1 = .ok (.iload_n 1, 1) := by decide +kernel
theorem dX9_bribes_2 : decode cX9_bribes 2 = .ok (.iload_n 2, 1) := by decide +kernel
theorem dX9_bribes_3 : decode cX9_bribes 3 = .ok (.invokevirtual 184, 3) := by decide +kernel
theorem dX9_bribes_6 : decode cX9_bribes 6 = .ok (.istore_n 3, 1) := by decide +kernel
theorem dX9_bribes_7 : decode cX9_bribes 7 = .ok (.iload_n 3, 1) := by decide +kernel
theorem dX9_bribes_8 : decode cX9_bribes 8 = .ok (.ifCond .eq 9, 3) := by decide +kernel
theorem dX9_bribes_11 : decode cX9_bribes 11 = .ok (.aload_n 0, 1) := by decide +kernel
theorem dX9_bribes_12 : decode cX9_bribes 12 = .ok (.iload_n 3, 1) := by decide +kernel
theorem dX9_bribes_13 : decode cX9_bribes 13 = .ok (.invokevirtual 75, 3) := by decide +kernel
theorem dX9_bribes_16 : decode cX9_bribes 16 = .ok (.ireturn, 1) := by decide +kernel
theorem dX9_bribes_17 : decode cX9_bribes 17 = .ok (.aload_n 0, 1) := by decide +kernel
theorem dX9_bribes_18 : decode cX9_bribes 18 = .ok (.iload_n 1, 1) := by decide +kernel
theorem dX9_bribes_19 : decode cX9_bribes 19 = .ok (.invokevirtual 91, 3) := by decide +kernel
theorem dX9_bribes_22 : decode cX9_bribes 22 = .ok (.istore 4, 2) := by decide +kernel
theorem dX9_bribes_24 : decode cX9_bribes 24 = .ok (.aload_n 0, 1) := by decide +kernel
theorem dX9_bribes_25 : decode cX9_bribes 25 = .ok (.iload_n 1, 1) := by decide +kernel
theorem dX9_bribes_26 : decode cX9_bribes 26 = .ok (.iconst 2, 1) := by decide +kernel
theorem dX9_bribes_27 : decode cX9_bribes 27 = .ok (.invokevirtual 94, 3) := by decide +kernel
theorem dX9_bribes_30 : decode cX9_bribes 30 = .ok (.istore 5, 2) := by decide +kernel
theorem dX9_bribes_32 : decode cX9_bribes 32 = .ok (.aload_n 0, 1) := by decide +kernel
theorem dX9_bribes_33 : decode cX9_bribes 33 = .ok (.iload 4, 2) := by decide +kernel
theorem dX9_bribes_35 : decode cX9_bribes 35 = .ok (.iconst 1, 1) := by decide +kernel
theorem dX9_bribes_36 : decode cX9_bribes 36 = .ok (.invokevirtual 63, 3) := by decide +kernel
theorem dX9_bribes_39 : decode cX9_bribes 39 = .ok (.istore 6, 2) := by decide +kernel
theorem dX9_bribes_41 : decode cX9_bribes 41 = .ok (.iconst (-1), 1) := by decide +kernel
theorem dX9_bribes_42 : decode cX9_bribes 42 = .ok (.istore 7, 2) := by decide +kernel
theorem dX9_bribes_44 : decode cX9_bribes 44 = .ok (.iconst 0, 1) := by decide +kernel
theorem dX9_bribes_45 : decode cX9_bribes 45 = .ok (.istore 8, 2) := by decide +kernel
theorem dX9_bribes_47 : decode cX9_bribes 47 = .ok (.iload 8, 2) := by decide +kernel
theorem dX9_bribes_49 : decode cX9_bribes 49 = .ok (.bipush 9, 2) := by decide +kernel
theorem dX9_bribes_51 : decode cX9_bribes 51 = .ok (.if_icmp .gt 36, 3) := by decide +kernel
theorem dX9_bribes_54 : decode cX9_bribes 54 = .ok (.iload 7, 2) := by decide +kernel
theorem dX9_bribes_56 : decode cX9_bribes 56 = .ok (.ifCond .ge 31, 3) := by decide +kernel
theorem dX9_bribes_59 : decode cX9_bribes 59 = .ok (.aload_n 0, 1) := by decide +kernel
theorem dX9_bribes_60 : decode cX9_bribes 60 = .ok (.iload_n 1, 1) := by decide +kernel
theorem dX9_bribes_61 : decode cX9_bribes 61 = .ok (.iload_n 2, 1) := by decide +kernel
theorem dX9_bribes_62 : decode cX9_bribes 62 = .ok (.invokevirtual 187, 3) := by decide +kernel
theorem dX9_bribes_65 : decode cX9_bribes 65 = .ok (.ifCond .eq 8, 3) := by decide +kernel
theorem dX9_bribes_68 : decode cX9_bribes 68 = .ok (.iload 8, 2) := by decide +kernel
theorem dX9_bribes_70 : decode cX9_bribes 70 = .ok (.goto 4, 3) := by decide +kernel
theorem dX9_bribes_73 : decode cX9_bribes 73 = .ok (.iconst (-1), 1) := by decide +kernel
theorem dX9_bribes_74 : decode cX9_bribes 74 = .ok (.istore 7, 2) := by decide +kernel
theorem dX9_bribes_76 : decode cX9_bribes 76 = .ok (.aload_n 0, 1) := by decide +kernel
theorem dX9_bribes_77 : decode cX9_bribes 77 = .ok (.iload_n 1, 1) := by decide +kernel
theorem dX9_bribes_78 : decode cX9_bribes 78 = .ok (.invokevirtual 136, 3) := by decide +kernel
theorem dX9_bribes_81 : decode cX9_bribes 81 = .ok (.iinc 8 1, 3) := by decide +kernel
theorem dX9_bribes_84 : decode cX9_bribes 84 = .ok (.goto (-37), 3) := by decide +kernel
theorem dX9_bribes_87 : decode cX9_bribes 87 = .ok (.aload_n 0, 1) := by decide +kernel
theorem dX9_bribes_88 : decode cX9_bribes 88 = .ok (.getfield 7, 3) := by decide +kernel
theorem dX9_bribes_91 : decode cX9_bribes 91 = .ok (.iload_n 1, 1) := by decide +kernel
theorem dX9_bribes_92 : decode cX9_bribes 92 = .ok (.iconst 2, 1) := by decide +kernel
theorem dX9_bribes_93 : decode cX9_bribes 93 = .ok (.invokestatic 60, 3) := by decide +kernel
theorem dX9_bribes_96 : decode cX9_bribes 96 = .ok (.iload 5, 2) := by decide +kernel
theorem dX9_bribes_98 : decode cX9_bribes 98 = .ok (.iastore, 1) := by decide +kernel
theorem dX9_bribes_99 : decode cX9_bribes 99 = .ok (.aload_n 0, 1) := by decide +kernel
theorem dX9_bribes_100 : decode cX9_bribes 100 = .ok (.getfield 7, 3) := by decide +kernel
theorem dX9_bribes_103 : decode cX9_bribes 103 = .ok (.iload 4, 2) := by decide +kernel
theorem dX9_bribes_105 : decode cX9_bribes 105 = .ok (.iconst 1, 1) := by decide +kernel
theorem dX9_bribes_106 : decode cX9_bribes 106 = .ok (.invokestatic 47, 3) := by decide +kernel
theorem dX9_bribes_109 : decode cX9_bribes 109 = .ok (.iload 6, 2) := by decide +kernel
theorem dX9_bribes_111 : decode cX9_bribes 111 = .ok (.iastore, 1) := by decide +kernel
theorem dX9_bribes_112 : decode cX9_bribes 112 = .ok (.iload 7, 2) := by decide +kernel
theorem dX9_bribes_114 : decode cX9_bribes 114 = .ok (.ifCond .ge 12, 3) := by decide +kernel
theorem dX9_bribes_117 : decode cX9_bribes 117 = .ok (.aload_n 0, 1) := by decide +kernel
theorem dX9_bribes_118 : decode cX9_bribes 118 = .ok (.ldc 163, 2) := by decide +kernel
theorem dX9_bribes_120 : decode cX9_bribes 120 = .ok (.invokevirtual 75, 3) := by decide +kernel
theorem dX9_bribes_123 : decode cX9_bribes 123 = .ok (.goto 5, 3) := by decide +kernel
theorem dX9_bribes_126 : decode cX9_bribes 126 = .ok (.iload 7, 2) := by decide +kernel
theorem dX9_bribes_128 : decode cX9_bribes 128 = .ok (.ireturn, 1) := by decide +kernel
theorem dX9_coat_0 : decode cX9_coat 0 = .ok (.aload_n 0, 1) := by decide +kernel
theorem dX9_coat_1 : decode cX9_coat 1 = .ok (.iload_n 1, 1) := by decide +kernel
theorem dX9_coat_2 : decode cX9_coat 2 = .ok (.invokevirtual 100, 3) := by decide +kernel
theorem dX9_coat_5 : decode cX9_coat 5 = .ok (.ifCond .eq 32, 3) := by decide +kernel
theorem dX9_coat_8 : decode cX9_coat 8 = .ok (.iload_n 2, 1) := by decide +kernel
theorem dX9_coat_9 : decode cX9_coat 9 = .ok (.invokestatic 68, 3) := by decide +kernel
theorem dX9_coat_12 : decode cX9_coat 12 = .ok (.ifCond .eq 25, 3) := by decide +kernel
theorem dX9_coat_15 : decode cX9_coat 15 = .ok (.sipush 1000, 3) := by decide +kernel
theorem dX9_coat_18 : decode cX9_coat 18 = .ok (.iconst 4, 1) := by decide +kernel
theorem dX9_coat_19 : decode cX9_coat 19 = .ok (.aload_n 0, 1) := by decide +kernel
theorem dX9_coat_20 : decode cX9_coat 20 = .ok (.iload_n 1, 1) := by decide +kernel
theorem dX9_coat_21 : decode cX9_coat 21 = .ok (.iconst 3, 1) := by decide +kernel
theorem dX9_coat_22 : decode cX9_coat 22 = .ok (.invokevirtual 94, 3) := by decide +kernel
theorem dX9_coat_25 : decode cX9_coat 25 = .ok (.imul, 1) := by decide +kernel
theorem dX9_coat_26 : decode cX9_coat 26 = .ok (.iadd, 1) := by decide +kernel
theorem dX9_coat_27 : decode cX9_coat 27 = .ok (.aload_n 0, 1) := by decide +kernel
theorem dX9_coat_28 : decode cX9_coat 28 = .ok (.getfield 7, 3) := by decide +kernel
theorem dX9_coat_31 : decode cX9_coat 31 = .ok (.iconst 3, 1) := by decide +kernel
theorem dX9_coat_32 : decode cX9_coat 32 = .ok (.iaload, 1) := by decide +kernel
theorem dX9_coat_33 : decode cX9_coat 33 = .ok (.isub, 1) := by decide +kernel
theorem dX9_coat_34 : decode cX9_coat 34 = .ok (.goto 9, 3) := by decide +kernel
theorem dX9_coat_37 : decode cX9_coat 37 = .ok (.aload_n 0, 1) := by decide +kernel
theorem dX9_coat_38 : decode cX9_coat 38 = .ok (.ldc 51, 2) := by decide +kernel
theorem dX9_coat_40 : decode cX9_coat 40 = .ok (.invokevirtual 75, 3) := by decide +kernel
theorem dX9_coat_43 : decode cX9_coat 43 = .ok (.ireturn, 1) := by decide +kernel
theorem dX9_mood_0 : decode cX9_mood 0 = .ok (.aload_n 0, 1) := by decide +kernel
theorem dX9_mood_1 : decode cX9_mood 1 = .ok (.iload_n 1, 1) := by decide +kernel
theorem dX9_mood_2 : decode cX9_mood 2 = .ok (.iload_n 2, 1) := by decide +kernel
theorem dX9_mood_3 : decode cX9_mood 3 = .ok (.invokevirtual 184, 3) := by decide +kernel
theorem dX9_mood_6 : decode cX9_mood 6 = .ok (.istore_n 3, 1) := by decide +kernel
theorem dX9_mood_7 : decode cX9_mood 7 = .ok (.iload_n 3, 1) := by decide +kernel
theorem dX9_mood_8 : decode cX9_mood 8 = .ok (.ifCond .eq 9, 3) := by decide +kernel
theorem dX9_mood_11 : decode cX9_mood 11 = .ok (.aload_n 0, 1) := by decide +kernel
theorem dX9_mood_12 : decode cX9_mood 12 = .ok (.iload_n 3, 1) := by decide +kernel
theorem dX9_mood_13 : decode cX9_mood 13 = .ok (.invokevirtual 75, 3) := by decide +kernel
theorem dX9_mood_16 : decode cX9_mood 16 = .ok (.ireturn, 1) := by decide +kernel
theorem dX9_mood_17 : decode cX9_mood 17 = .ok (.aload_n 0, 1) := by decide +kernel
theorem dX9_mood_18 : decode cX9_mood 18 = .ok (.iload_n 1, 1) := by decide +kernel
theorem dX9_mood_19 : decode cX9_mood 19 = .ok (.iconst 2, 1) := by decide +kernel
theorem dX9_mood_20 : decode cX9_mood 20 = .ok (.invokevirtual 94, 3) := by decide +kernel
theorem dX9_mood_23 : decode cX9_mood 23 = .ok (.istore 4, 2) := by decide +kernel
theorem dX9_mood_25 : decode cX9_mood 25 = .ok (.iconst (-1), 1) := by decide +kernel
theorem dX9_mood_26 : decode cX9_mood 26 = .ok (.istore 5, 2) := by decide +kernel
theorem dX9_mood_28 : decode cX9_mood 28 = .ok (.iconst 0, 1) := by decide +kernel
theorem dX9_mood_29 : decode cX9_mood 29 = .ok (.istore 6, 2) := by decide +kernel
theorem dX9_mood_31 : decode cX9_mood 31 = .ok (.iload 6, 2) := by decide +kernel
theorem dX9_mood_33 : decode cX9_mood 33 = .ok (.bipush 9, 2) := by decide +kernel
theorem dX9_mood_35 : decode cX9_mood 35 = .ok (.if_icmp .gt 43, 3) := by decide +kernel
theorem dX9_mood_38 : decode cX9_mood 38 = .ok (.iload 5, 2) := by decide +kernel
theorem dX9_mood_40 : decode cX9_mood 40 = .ok (.ifCond .ge 38, 3) := by decide +kernel
theorem dX9_mood_43 : decode cX9_mood 43 = .ok (.aload_n 0, 1) := by decide +kernel
theorem dX9_mood_44 : decode cX9_mood 44 = .ok (.getfield 7, 3) := by decide +kernel
theorem dX9_mood_47 : decode cX9_mood 47 = .ok (.iload_n 1, 1) := by decide +kernel
theorem dX9_mood_48 : decode cX9_mood 48 = .ok (.iconst 2, 1) := by decide +kernel
theorem dX9_mood_49 : decode cX9_mood 49 = .ok (.invokestatic 60, 3) := by decide +kernel
theorem dX9_mood_52 : decode cX9_mood 52 = .ok (.iload 6, 2) := by decide +kernel
theorem dX9_mood_54 : decode cX9_mood 54 = .ok (.iastore, 1) := by decide +kernel
theorem dX9_mood_55 : decode cX9_mood 55 = .ok (.aload_n 0, 1) := by decide +kernel
theorem dX9_mood_56 : decode cX9_mood 56 = .ok (.iload_n 1, 1) := by decide +kernel
theorem dX9_mood_57 : decode cX9_mood 57 = .ok (.iload_n 2, 1) := by decide +kernel
theorem dX9_mood_58 : decode cX9_mood 58 = .ok (.invokevirtual 187, 3) := by decide +kernel
theorem dX9_mood_61 : decode cX9_mood 61 = .ok (.ifCond .eq 8, 3) := by decide +kernel
theorem dX9_mood_64 : decode cX9_mood 64 = .ok (.iload 6, 2) := by decide +kernel
theorem dX9_mood_66 : decode cX9_mood 66 = .ok (.goto 4, 3) := by decide +kernel
theorem dX9_mood_69 : decode cX9_mood 69 = .ok (.iconst (-1), 1) := by decide +kernel
theorem dX9_mood_70 : decode cX9_mood 70 = .ok (.istore 5, 2) := by decide +kernel
theorem dX9_mood_72 : decode cX9_mood 72 = .ok (.iinc 6 1, 3) := by decide +kernel
theorem dX9_mood_75 : decode cX9_mood 75 = .ok (.goto (-44), 3) := by decide +kernel
theorem dX9_mood_78 : decode cX9_mood 78 = .ok (.aload_n 0, 1) := by decide +kernel
theorem dX9_mood_79 : decode cX9_mood 79 = .ok (.getfield 7, 3) := by decide +kernel
theorem dX9_mood_82 : decode cX9_mood 82 = .ok (.iload_n 1, 1) := by decide +kernel
theorem dX9_mood_83 : decode cX9_mood 83 = .ok (.iconst 2, 1) := by decide +kernel
theorem dX9_mood_84 : decode cX9_mood 84 = .ok (.invokestatic 60, 3) := by decide +kernel
theorem dX9_mood_87 : decode cX9_mood 87 = .ok (.iload 4, 2) := by decide +kernel
theorem dX9_mood_89 : decode cX9_mood 89 = .ok (.iastore, 1) := by decide +kernel
theorem dX9_mood_90 : decode cX9_mood 90 = .ok (.iload 5, 2) := by decide +kernel
theorem dX9_mood_92 : decode cX9_mood 92 = .ok (.ifCond .ge 12, 3) := by decide +kernel
theorem dX9_mood_95 : decode cX9_mood 95 = .ok (.aload_n 0, 1) := by decide +kernel
theorem dX9_mood_96 : decode cX9_mood 96 = .ok (.ldc 163, 2) := by decide +kernel
theorem dX9_mood_98 : decode cX9_mood 98 = .ok (.invokevirtual 75, 3) := by decide +kernel
theorem dX9_mood_101 : decode cX9_mood 101 = .ok (.goto 5, 3) := by decide +kernel
theorem dX9_mood_104 : decode cX9_mood 104 = .ok (.iload 5, 2) := by decide +kernel
theorem dX9_mood_106 : decode cX9_mood 106 = .ok (.ireturn, 1) := by decide +kernel
theorem dX9_worst_0 : decode cX9_worst 0 = .ok (.iload_n 1, 1) := by decide +kernel
theorem dX9_worst_1 : decode cX9_worst 1 = .ok (.i2l, 1) := by decide +kernel
theorem dX9_worst_2 : decode cX9_worst 2 = .ok (.lconst 0, 1) := by decide +kernel
theorem dX9_worst_3 : decode cX9_worst 3 = .ok (.ldc2_w 142, 3) := by decide +kernel
theorem dX9_worst_6 : decode cX9_worst 6 = .ok (.invokestatic 54, 3) := by decide +kernel
theorem dX9_worst_9 : decode cX9_worst 9 = .ok (.ifCond .ne 10, 3) := by decide +kernel
theorem dX9_worst_12 : decode cX9_worst 12 = .ok (.aload_n 0, 1) := by decide +kernel
theorem dX9_worst_13 : decode cX9_worst 13 = .ok (.ldc 51, 2) := by decide +kernel
theorem dX9_worst_15 : decode cX9_worst 15 = .ok (.invokevirtual 75, 3) := by decide +kernel
theorem dX9_worst_18 : decode cX9_worst 18 = .ok (.ireturn, 1) := by decide +kernel
theorem dX9_worst_19 : decode cX9_worst 19 = .ok (.aload_n 0, 1) := by decide +kernel
theorem dX9_worst_20 : decode cX9_worst 20 = .ok (.invokevirtual 147, 3) := by decide +kernel
theorem dX9_worst_23 : decode cX9_worst 23 = .ok (.istore_n 2, 1) := by decide +kernel
theorem dX9_worst_24 : decode cX9_worst 24 = .ok (.aload_n 0, 1) := by decide +kernel
theorem dX9_worst_25 : decode cX9_worst 25 = .ok (.invokevirtual 154, 3) := by decide +kernel
theorem dX9_worst_28 : decode cX9_worst 28 = .ok (.aload_n 0, 1) := by decide +kernel
theorem dX9_worst_29 : decode cX9_worst 29 = .ok (.iload_n 1, 1) := by decide +kernel
theorem dX9_worst_30 : decode cX9_worst 30 = .ok (.invokevirtual 144, 3) := by decide +kernel
theorem dX9_worst_33 : decode cX9_worst 33 = .ok (.iconst (-1), 1) := by decide +kernel
theorem dX9_worst_34 : decode cX9_worst 34 = .ok (.istore_n 3, 1) := by decide +kernel
theorem dX9_worst_35 : decode cX9_worst 35 = .ok (.iconst 0, 1) := by decide +kernel
theorem dX9_worst_36 : decode cX9_worst 36 = .ok (.istore 4, 2) := by decide +kernel
theorem dX9_worst_38 : decode cX9_worst 38 = .ok (.iload 4, 2) := by decide +kernel
theorem dX9_worst_40 : decode cX9_worst 40 = .ok (.aload_n 0, 1) := by decide +kernel
theorem dX9_worst_41 : decode cX9_worst 41 = .ok (.getfield 7, 3) := by decide +kernel
theorem dX9_worst_44 : decode cX9_worst 44 = .ok (.iconst 0, 1) := by decide +kernel
theorem dX9_worst_45 : decode cX9_worst 45 = .ok (.iaload, 1) := by decide +kernel
theorem dX9_worst_46 : decode cX9_worst 46 = .ok (.if_icmp .ge 46, 3) := by decide +kernel
theorem dX9_worst_49 : decode cX9_worst 49 = .ok (.iload_n 2, 1) := by decide +kernel
theorem dX9_worst_50 : decode cX9_worst 50 = .ok (.iload 4, 2) := by decide +kernel
theorem dX9_worst_52 : decode cX9_worst 52 = .ok (.ishr, 1) := by decide +kernel
theorem dX9_worst_53 : decode cX9_worst 53 = .ok (.iconst 1, 1) := by decide +kernel
theorem dX9_worst_54 : decode cX9_worst 54 = .ok (.iand, 1) := by decide +kernel
theorem dX9_worst_55 : decode cX9_worst 55 = .ok (.iconst 1, 1) := by decide +kernel
theorem dX9_worst_56 : decode cX9_worst 56 = .ok (.if_icmp .ne 28, 3) := by decide +kernel
theorem dX9_worst_59 : decode cX9_worst 59 = .ok (.iload_n 3, 1) := by decide +kernel
theorem dX9_worst_60 : decode cX9_worst 60 = .ok (.ifCond .lt 19, 3) := by decide +kernel
theorem dX9_worst_63 : decode cX9_worst 63 = .ok (.aload_n 0, 1) := by decide +kernel
theorem dX9_worst_64 : decode cX9_worst 64 = .ok (.iload 4, 2) := by decide +kernel
theorem dX9_worst_66 : decode cX9_worst 66 = .ok (.iconst 2, 1) := by decide +kernel
theorem dX9_worst_67 : decode cX9_worst 67 = .ok (.invokevirtual 94, 3) := by decide +kernel
theorem dX9_worst_70 : decode cX9_worst 70 = .ok (.aload_n 0, 1) := by decide +kernel
theorem dX9_worst_71 : decode cX9_worst 71 = .ok (.iload_n 3, 1) := by decide +kernel
theorem dX9_worst_72 : decode cX9_worst 72 = .ok (.iconst 2, 1) := by decide +kernel
theorem dX9_worst_73 : decode cX9_worst 73 = .ok (.invokevirtual 94, 3) := by decide +kernel
theorem dX9_worst_76 : decode cX9_worst 76 = .ok (.if_icmp .ge 8, 3) := by decide +kernel
theorem dX9_worst_79 : decode cX9_worst 79 = .ok (.iload 4, 2) := by decide +kernel
theorem dX9_worst_81 : decode cX9_worst 81 = .ok (.goto 4, 3) := by decide +kernel
theorem dX9_worst_84 : decode cX9_worst 84 = .ok (.iload_n 3, 1) := by decide +kernel
theorem dX9_worst_85 : decode cX9_worst 85 = .ok (.istore_n 3, 1) := by decide +kernel
theorem dX9_worst_86 : decode cX9_worst 86 = .ok (.iinc 4 1, 3) := by decide +kernel
theorem dX9_worst_89 : decode cX9_worst 89 = .ok (.goto (-51), 3) := by decide +kernel
theorem dX9_worst_92 : decode cX9_worst 92 = .ok (.aload_n 0, 1) := by decide +kernel
theorem dX9_worst_93 : decode cX9_worst 93 = .ok (.iload_n 3, 1) := by decide +kernel
theorem dX9_worst_94 : decode cX9_worst 94 = .ok (.invokevirtual 157, 3) := by decide +kernel
theorem dX9_worst_97 : decode cX9_worst 97 = .ok (.istore 4, 2) := by decide +kernel
theorem dX9_worst_99 : decode cX9_worst 99 = .ok (.iload 4, 2) := by decide +kernel
theorem dX9_worst_101 : decode cX9_worst 101 = .ok (.ifCond .ge 12, 3) := by decide +kernel
theorem dX9_worst_104 : decode cX9_worst 104 = .ok (.aload_n 0, 1) := by decide +kernel
theorem dX9_worst_105 : decode cX9_worst 105 = .ok (.ldc 163, 2) := by decide +kernel
theorem dX9_worst_107 : decode cX9_worst 107 = .ok (.invokevirtual 75, 3) := by decide +kernel
theorem dX9_worst_110 : decode cX9_worst 110 = .ok (.goto 5, 3) := by decide +kernel
theorem dX9_worst_113 : decode cX9_worst 113 = .ok (.iload 4, 2) := by decide +kernel
theorem dX9_worst_115 : decode cX9_worst 115 = .ok (.ireturn, 1) := by decide +kernel
theorem dX9_feed_0 : decode cX9_feed 0 = .ok (.iload_n 2, 1) := by decide +kernel
theorem dX9_feed_1 : decode cX9_feed 1 = .ok (.i2l, 1) := by decide +kernel
theorem dX9_feed_2 : decode cX9_feed 2 = .ok (.lconst 1, 1) := by decide +kernel
theorem dX9_feed_3 : decode cX9_feed 3 = .ok (.ldc2_w 79, 3) := by decide +kernel
theorem dX9_feed_6 : decode cX9_feed 6 = .ok (.invokestatic 54, 3) := by decide +kernel
theorem dX9_feed_9 : decode cX9_feed 9 = .ok (.ifCond .ne 10, 3) := by decide +kernel
theorem dX9_feed_12 : decode cX9_feed 12 = .ok (.aload_n 0, 1) := by decide +kernel
theorem dX9_feed_13 : decode cX9_feed 13 = .ok (.ldc 51, 2) := by decide +kernel
theorem dX9_feed_15 : decode cX9_feed 15 = .ok (.invokevirtual 75, 3) := by decide +kernel
theorem dX9_feed_18 : decode cX9_feed 18 = .ok (.ireturn, 1) := by decide +kernel
theorem dX9_feed_19 : decode cX9_feed 19 = .ok (.aload_n 0, 1) := by decide +kernel
theorem dX9_feed_20 : decode cX9_feed 20 = .ok (.getfield 190, 3) := by decide +kernel
theorem dX9_feed_23 : decode cX9_feed 23 = .ok (.iload_n 2, 1) := by decide +kernel
theorem dX9_feed_24 : decode cX9_feed 24 = .ok (.iadd, 1) := by decide +kernel
theorem dX9_feed_25 : decode cX9_feed 25 = .ok (.bipush 120, 2) := by decide +kernel
theorem dX9_feed_27 : decode cX9_feed 27 = .ok (.if_icmp .le 10, 3) := by decide +kernel
theorem dX9_feed_30 : decode cX9_feed 30 = .ok (.aload_n 0, 1) := by decide +kernel
theorem dX9_feed_31 : decode cX9_feed 31 = .ok (.ldc 84, 2) := by decide +kernel
theorem dX9_feed_33 : decode cX9_feed 33 = .ok (.invokevirtual 75, 3) := by decide +kernel
theorem dX9_feed_36 : decode cX9_feed 36 = .ok (.ireturn, 1) := by decide +kernel
theorem dX9_feed_37 : decode cX9_feed 37 = .ok (.iload_n 2, 1) := by decide +kernel
theorem dX9_feed_38 : decode cX9_feed 38 = .ok (.iconst 1, 1) := by decide +kernel
theorem dX9_feed_39 : decode cX9_feed 39 = .ok (.isub, 1) := by decide +kernel
theorem dX9_feed_40 : decode cX9_feed 40 = .ok (.istore_n 3, 1) := by decide +kernel
theorem dX9_feed_41 : decode cX9_feed 41 = .ok (.iload_n 3, 1) := by decide +kernel
theorem dX9_feed_42 : decode cX9_feed 42 = .ok (.ifCond .lt 38, 3) := by decide +kernel
theorem dX9_feed_45 : decode cX9_feed 45 = .ok (.aload_n 0, 1) := by decide +kernel
theorem dX9_feed_46 : decode cX9_feed 46 = .ok (.getfield 31, 3) := by decide +kernel
theorem dX9_feed_49 : decode cX9_feed 49 = .ok (.aload_n 0, 1) := by decide +kernel
theorem dX9_feed_50 : decode cX9_feed 50 = .ok (.getfield 190, 3) := by decide +kernel
theorem dX9_feed_53 : decode cX9_feed 53 = .ok (.iload_n 1, 1) := by decide +kernel
theorem dX9_feed_54 : decode cX9_feed 54 = .ok (.bipush 8, 2) := by decide +kernel
theorem dX9_feed_56 : decode cX9_feed 56 = .ok (.iload_n 3, 1) := by decide +kernel
theorem dX9_feed_57 : decode cX9_feed 57 = .ok (.imul, 1) := by decide +kernel
theorem dX9_feed_58 : decode cX9_feed 58 = .ok (.ishr, 1) := by decide +kernel
theorem dX9_feed_59 : decode cX9_feed 59 = .ok (.sipush 255, 3) := by decide +kernel
theorem dX9_feed_62 : decode cX9_feed 62 = .ok (.iand, 1) := by decide +kernel
theorem dX9_feed_63 : decode cX9_feed 63 = .ok (.iastore, 1) := by decide +kernel
theorem dX9_feed_64 : decode cX9_feed 64 = .ok (.aload_n 0, 1) := by decide +kernel
theorem dX9_feed_65 : decode cX9_feed 65 = .ok (.dup, 1) := by decide +kernel
theorem dX9_feed_66 : decode cX9_feed 66 = .ok (.getfield 190, 3) := by decide +kernel
theorem dX9_feed_69 : decode cX9_feed 69 = .ok (.iconst 1, 1) := by decide +kernel
theorem dX9_feed_70 : decode cX9_feed 70 = .ok (.iadd, 1) := by decide +kernel
theorem dX9_feed_71 : decode cX9_feed 71 = .ok (.putfield 190, 3) := by decide +kernel
theorem dX9_feed_74 : decode cX9_feed 74 = .ok (.iinc 3 (-1), 3) := by decide +kernel
theorem dX9_feed_77 : decode cX9_feed 77 = .ok (.goto (-36), 3) := by decide +kernel
theorem dX9_feed_80 : decode cX9_feed 80 = .ok (.aload_n 0, 1) := by decide +kernel
theorem dX9_feed_81 : decode cX9_feed 81 = .ok (.getfield 190, 3) := by decide +kernel
theorem dX9_feed_84 : decode cX9_feed 84 = .ok (.ireturn, 1) := by decide +kernel
theorem dX9_wipe_0 : decode cX9_wipe 0 = .ok (.aload_n 0, 1) := by decide +kernel
theorem dX9_wipe_1 : decode cX9_wipe 1 = .ok (.getfield 190, 3) := by decide +kernel
theorem dX9_wipe_4 : decode cX9_wipe 4 = .ok (.istore_n 1, 1) := by decide +kernel
theorem dX9_wipe_5 : decode cX9_wipe 5 = .ok (.aload_n 0, 1) := by decide +kernel
theorem dX9_wipe_6 : decode cX9_wipe 6 = .ok (.iconst 0, 1) := by decide +kernel
theorem dX9_wipe_7 : decode cX9_wipe 7 = .ok (.putfield 190, 3) := by decide +kernel
theorem dX9_wipe_10 : decode cX9_wipe 10 = .ok (.iload_n 1, 1) := by decide +kernel
theorem dX9_wipe_11 : decode cX9_wipe 11 = .ok (.ireturn, 1) := by decide +kernel
theorem dX9_byteAt_0 : decode cX9_byteAt 0 = .ok (.iload_n 1, 1) := by decide +kernel
theorem dX9_byteAt_1 : decode cX9_byteAt 1 = .ok (.aload_n 0, 1) := by decide +kernel
theorem dX9_byteAt_2 : decode cX9_byteAt 2 = .ok (.getfield 190, 3) := by decide +kernel
theorem dX9_byteAt_5 : decode cX9_byteAt 5 = .ok (.if_icmp .ge 12, 3) := by decide +kernel
theorem dX9_byteAt_8 : decode cX9_byteAt 8 = .ok (.aload_n 0, 1) := by decide +kernel
theorem dX9_byteAt_9 : decode cX9_byteAt 9 = .ok (.getfield 31, 3) := by decide +kernel
theorem dX9_byteAt_12 : decode cX9_byteAt 12 = .ok (.iload_n 1, 1) := by decide +kernel
theorem dX9_byteAt_13 : decode cX9_byteAt 13 = .ok (.iaload, 1) := by decide +kernel
theorem dX9_byteAt_14 : decode cX9_byteAt 14 = .ok (.goto 4, 3) := by decide +kernel
theorem dX9_byteAt_17 : decode cX9_byteAt 17 = .ok (.iconst (-1), 1) := by decide +kernel
theorem dX9_byteAt_18 : decode cX9_byteAt 18 = .ok (.ireturn, 1) := by decide +kernel
theorem dX9_isLetter_0 : decode cX9_isLetter 0 = .ok (.iload_n 0, 1) := by decide +kernel
theorem dX9_isLetter_1 : decode cX9_isLetter 1 = .ok (.i2l, 1) := by decide +kernel
theorem dX9_isLetter_2 : decode cX9_isLetter 2 = .ok (.ldc2_w 193, 3) := by decide +kernel
theorem dX9_isLetter_5 : decode cX9_isLetter 5 = .ok (.ldc2_w 195, 3) := by decide +kernel
theorem dX9_isLetter_8 : decode cX9_isLetter 8 = .ok (.invokestatic 54, 3) := by decide +kernel
theorem dX9_isLetter_11 : decode cX9_isLetter 11 = .ok (.ireturn, 1) := by decide +kernel
theorem dX9_isDigit_0 : decode cX9_isDigit 0 = .ok (.iload_n 0, 1) := by decide +kernel
theorem dX9_isDigit_1 : decode cX9_isDigit 1 = .ok (.i2l, 1) := by decide +kernel
theorem dX9_isDigit_2 : decode cX9_isDigit 2 = .ok (.ldc2_w 197, 3) := by decide +kernel
theorem dX9_isDigit_5 : decode cX9_isDigit 5 = .ok (.ldc2_w 199, 3) := by decide +kernel
theorem dX9_isDigit_8 : decode cX9_isDigit 8 = .ok (.invokestatic 54, 3) := by decide +kernel
theorem dX9_isDigit_11 : decode cX9_isDigit 11 = .ok (.ireturn, 1) := by decide +kernel
theorem dX9_token_0 : decode cX9_token 0 = .ok (.aload_n 0, 1) := by decide +kernel
theorem dX9_token_1 : decode cX9_token 1 = .ok (.aload_n 0, 1) := by decide +kernel
theorem dX9_token_2 : decode cX9_token 2 = .ok (.getfield 201, 3) := by decide +kernel
theorem dX9_token_5 : decode cX9_token 5 = .ok (.putfield 204, 3) := by decide +kernel
theorem dX9_token_8 : decode cX9_token 8 = .ok (.aload_n 0, 1) := by decide +kernel
theorem dX9_token_9 : decode cX9_token 9 = .ok (.aload_n 0, 1) := by decide +kernel
theorem dX9_token_10 : decode cX9_token 10 = .ok (.getfield 204, 3) := by decide +kernel
theorem dX9_token_13 : decode cX9_token 13 = .ok (.invokevirtual 207, 3) := by decide +kernel
theorem dX9_token_16 : decode cX9_token 16 = .ok (.bipush 32, 2) := by decide +kernel
theorem dX9_token_18 : decode cX9_token 18 = .ok (.if_icmp .ne 16, 3) := by decide +kernel
theorem dX9_token_21 : decode cX9_token 21 = .ok (.aload_n 0, 1) := by decide +kernel
theorem dX9_token_22 : decode cX9_token 22 = .ok (.dup, 1) := by decide +kernel
theorem dX9_token_23 : decode cX9_token 23 = .ok (.getfield 204, 3) := by decide +kernel
theorem dX9_token_26 : decode cX9_token 26 = .ok (.iconst 1, 1) := by decide +kernel
theorem dX9_token_27 : decode cX9_token 27 = .ok (.iadd, 1) := by decide +kernel
theorem dX9_token_28 : decode cX9_token 28 = .ok (.putfield 204, 3) := by decide +kernel
theorem dX9_token_31 : decode cX9_token 31 = .ok (.goto (-23), 3) := by decide +kernel
theorem dX9_token_34 : decode cX9_token 34 = .ok (.aload_n 0, 1) := by decide +kernel
theorem dX9_token_35 : decode cX9_token 35 = .ok (.aload_n 0, 1) := by decide +kernel
theorem dX9_token_36 : decode cX9_token 36 = .ok (.getfield 204, 3) := by decide +kernel
theorem dX9_token_39 : decode cX9_token 39 = .ok (.invokevirtual 207, 3) := by decide +kernel
theorem dX9_token_42 : decode cX9_token 42 = .ok (.invokestatic 210, 3) := by decide +kernel
theorem dX9_token_45 : decode cX9_token 45 = .ok (.istore_n 1, 1) := by decide +kernel
theorem dX9_token_46 : decode cX9_token 46 = .ok (.aload_n 0, 1) := by decide +kernel
theorem dX9_token_47 : decode cX9_token 47 = .ok (.aload_n 0, 1) := by decide +kernel
theorem dX9_token_48 : decode cX9_token 48 = .ok (.getfield 204, 3) := by decide +kernel
theorem dX9_token_51 : decode cX9_token 51 = .ok (.invokevirtual 207, 3) := by decide +kernel
theorem dX9_token_54 : decode cX9_token 54 = .ok (.invokestatic 213, 3) := by decide +kernel
theorem dX9_token_57 : decode cX9_token 57 = .ok (.istore_n 2, 1) := by decide +kernel
theorem dX9_token_58 : decode cX9_token 58 = .ok (.aload_n 0, 1) := by decide +kernel
theorem dX9_token_59 : decode cX9_token 59 = .ok (.aload_n 0, 1) := by decide +kernel
theorem dX9_token_60 : decode cX9_token 60 = .ok (.getfield 204, 3) := by decide +kernel
theorem dX9_token_63 : decode cX9_token 63 = .ok (.aload_n 0, 1) := by decide +kernel
theorem dX9_token_64 : decode cX9_token 64 = .ok (.getfield 190, 3) := by decide +kernel
theorem dX9_token_67 : decode cX9_token 67 = .ok (.if_icmp .ge 12, 3) := by decide +kernel
theorem dX9_token_70 : decode cX9_token 70 = .ok (.aload_n 0, 1) := by decide +kernel
theorem dX9_token_71 : decode cX9_token 71 = .ok (.getfield 204, 3) := by decide +kernel
theorem dX9_token_74 : decode cX9_token 74 = .ok (.iconst 1, 1) := by decide +kernel
theorem dX9_token_75 : decode cX9_token 75 = .ok (.iadd, 1) := by decide +kernel
theorem dX9_token_76 : decode cX9_token 76 = .ok (.goto 7, 3) := by decide +kernel
theorem dX9_token_79 : decode cX9_token 79 = .ok (.aload_n 0, 1) := by decide +kernel
theorem dX9_token_80 : decode cX9_token 80 = .ok (.getfield 204, 3) := by decide +kernel
theorem dX9_token_83 : decode cX9_token 83 = .ok (.putfield 201, 3) := by decide +kernel
theorem dX9_token_86 : decode cX9_token 86 = .ok (.iload_n 1, 1) := by decide +kernel
theorem dX9_token_87 : decode cX9_token 87 = .ok (.ifCond .eq 17, 3) := by decide +kernel
theorem dX9_token_90 : decode cX9_token 90 = .ok (.aload_n 0, 1) := by decide +kernel
theorem dX9_token_91 : decode cX9_token 91 = .ok (.aload_n 0, 1) := by decide +kernel
theorem dX9_token_92 : decode cX9_token 92 = .ok (.getfield 201, 3) := by decide +kernel
theorem dX9_token_95 : decode cX9_token 95 = .ok (.invokevirtual 207, 3) := by decide +kernel
theorem dX9_token_98 : decode cX9_token 98 = .ok (.invokestatic 210, 3) := by decide +kernel
theorem dX9_token_101 : decode cX9_token 101 = .ok (.ifCond .ne 21, 3) := by decide +kernel
theorem dX9_token_104 : decode cX9_token 104 = .ok (.iload_n 2, 1) := by decide +kernel
theorem dX9_token_105 : decode cX9_token 105 = .ok (.ifCond .eq 30, 3) := by decide +kernel
theorem dX9_token_108 : decode cX9_token 108 = .ok (.aload_n 0, 1) := by decide +kernel
theorem dX9_token_109 : decode cX9_token 109 = .ok (.aload_n 0, 1) := by decide +kernel
theorem dX9_token_110 : decode cX9_token 110 = .ok (.getfield 201, 3) := by decide +kernel
theorem dX9_token_113 : decode cX9_token 113 = .ok (.invokevirtual 207, 3) := by decide +kernel
theorem dX9_token_116 : decode cX9_token 116 = .ok (.invokestatic 213, 3) := by decide +kernel
theorem dX9_token_119 : decode cX9_token 119 = .ok (.ifCond .eq 16, 3) := by decide +kernel
theorem dX9_token_122 : decode cX9_token 122 = .ok (.aload_n 0, 1) := by decide +kernel
theorem dX9_token_123 : decode cX9_token 123 = .ok (.dup, 1) := by decide +kernel
theorem dX9_token_124 : decode cX9_token 124 = .ok (.getfield 201, 3) := by decide +kernel
theorem dX9_token_127 : decode cX9_token 127 = .ok (.iconst 1, 1) := by decide +kernel
theorem dX9_token_128 : decode cX9_token 128 = .ok (.iadd, 1) := by decide +kernel
theorem dX9_token_129 : decode cX9_token 129 = .ok (.putfield 201, 3) := by decide +kernel
theorem dX9_token_132 : decode cX9_token 132 = .ok (.goto (-46), 3) := by decide +kernel
theorem dX9_token_135 : decode cX9_token 135 = .ok (.return_, 1) := by decide +kernel
theorem dX9_must_0 : decode cX9_must 0 = .ok (.aload_n 0, 1) := by decide +kernel
theorem dX9_must_1 : decode cX9_must 1 = .ok (.aload_n 0, 1) := by decide +kernel
theorem dX9_must_2 : decode cX9_must 2 = .ok (.getfield 216, 3) := by decide +kernel
theorem dX9_must_5 : decode cX9_must 5 = .ok (.ifCond .ne 7, 3) := by decide +kernel
theorem dX9_must_8 : decode cX9_must 8 = .ok (.iload_n 1, 1) := by decide +kernel
theorem dX9_must_9 : decode cX9_must 9 = .ok (.ifCond .ne 7, 3) := by decide +kernel
theorem dX9_must_12 : decode cX9_must 12 = .ok (.iconst 1, 1) := by decide +kernel
theorem dX9_must_13 : decode cX9_must 13 = .ok (.goto 4, 3) := by decide +kernel
theorem dX9_must_16 : decode cX9_must 16 = .ok (.iconst 0, 1) := by decide +kernel
theorem dX9_must_17 : decode cX9_must 17 = .ok (.putfield 216, 3) := by decide +kernel
theorem dX9_must_20 : decode cX9_must 20 = .ok (.aload_n 0, 1) := by decide +kernel
theorem dX9_must_21 : decode cX9_must 21 = .ok (.getfield 216, 3) := by decide +kernel
theorem dX9_must_24 : decode cX9_must 24 = .ok (.ifCond .ne 7, 3) := by decide +kernel
theorem dX9_must_27 : decode cX9_must 27 = .ok (.aload_n 0, 1) := by decide +kernel
theorem dX9_must_28 : decode cX9_must 28 = .ok (.invokevirtual 220, 3) := by decide +kernel
theorem dX9_must_31 : decode cX9_must 31 = .ok (.return_, 1) := by decide +kernel
theorem dX9_word_0 : decode cX9_word 0 = .ok (.lconst 0, 1) := by decide +kernel
theorem dX9_word_1 : decode cX9_word 1 = .ok (.lstore_n 1, 1) := by decide +kernel
theorem dX9_word_2 : decode cX9_word 2 = .ok (.aload_n 0, 1) := by decide +kernel
theorem dX9_word_3 : decode cX9_word 3 = .ok (.getfield 204, 3) := by decide +kernel
theorem dX9_word_6 : decode cX9_word 6 = .ok (.istore_n 3, 1) := by decide +kernel
theorem dX9_word_7 : decode cX9_word 7 = .ok (.iload_n 3, 1) := by decide +kernel
theorem dX9_word_8 : decode cX9_word 8 = .ok (.aload_n 0, 1) := by decide +kernel
theorem dX9_word_9 : decode cX9_word 9 = .ok (.getfield 201, 3) := by decide +kernel
theorem dX9_word_12 : decode cX9_word 12 = .ok (.if_icmp .ge 38, 3) := by decide +kernel
theorem dX9_word_15 : decode cX9_word 15 = .ok (.lload_n 1, 1) := by decide +kernel
theorem dX9_word_16 : decode cX9_word 16 = .ok (.ldc2_w 223, 3) := by decide +kernel
theorem dX9_word_19 : decode cX9_word 19 = .ok (.lcmp, 1) := by decide +kernel
theorem dX9_word_20 : decode cX9_word 20 = .ok (.ifCond .le 7, 3) := by decide +kernel
theorem dX9_word_23 : decode cX9_word 23 = .ok (.lload_n 1, 1) := by decide +kernel
theorem dX9_word_24 : decode cX9_word 24 = .ok (.goto 19, 3) := by decide +kernel
theorem dX9_word_27 : decode cX9_word 27 = .ok (.ldc2_w 225, 3) := by decide +kernel
theorem dX9_word_30 : decode cX9_word 30 = .ok (.lload_n 1, 1) := by decide +kernel
theorem dX9_word_31 : decode cX9_word 31 = .ok (.lmul, 1) := by decide +kernel
theorem dX9_word_32 : decode cX9_word 32 = .ok (.aload_n 0, 1) := by decide +kernel
theorem dX9_word_33 : decode cX9_word 33 = .ok (.getfield 31, 3) := by decide +kernel
theorem dX9_word_36 : decode cX9_word 36 = .ok (.iload_n 3, 1) := by decide +kernel
theorem dX9_word_37 : decode cX9_word 37 = .ok (.iaload, 1) := by decide +kernel
theorem dX9_word_38 : decode cX9_word 38 = .ok (.bipush 96, 2) := by decide +kernel
theorem dX9_word_40 : decode cX9_word 40 = .ok (.isub, 1) := by decide +kernel
theorem dX9_word_41 : decode cX9_word 41 = .ok (.i2l, 1) := by decide +kernel
theorem dX9_word_42 : decode cX9_word 42 = .ok (.ladd, 1) := by decide +kernel
theorem dX9_word_43 : decode cX9_word 43 = .ok (.lstore_n 1, 1) := by decide +kernel
theorem dX9_word_44 : decode cX9_word 44 = .ok (.iinc 3 1, 3) := by decide +kernel
theorem dX9_word_47 : decode cX9_word 47 = .ok (.goto (-40), 3) := by decide +kernel
theorem dX9_word_50 : decode cX9_word 50 = .ok (.aload_n 0, 1) := by decide +kernel
theorem dX9_word_51 : decode cX9_word 51 = .ok (.getfield 216, 3) := by decide +kernel
theorem dX9_word_54 : decode cX9_word 54 = .ok (.ifCond .ne 17, 3) := by decide +kernel
theorem dX9_word_57 : decode cX9_word 57 = .ok (.aload_n 0, 1) := by decide +kernel
theorem dX9_word_58 : decode cX9_word 58 = .ok (.aload_n 0, 1) := by decide +kernel
theorem dX9_word_59 : decode cX9_word 59 = .ok (.getfield 204, 3) := by decide +kernel
theorem dX9_word_62 : decode cX9_word 62 = .ok (.invokevirtual 207, 3) := by decide +kernel
theorem dX9_word_65 : decode cX9_word 65 = .ok (.invokestatic 210, 3) := by decide +kernel
theorem dX9_word_68 : decode cX9_word 68 = .ok (.ifCond .ne 7, 3) := by decide +kernel
theorem dX9_word_71 : decode cX9_word 71 = .ok (.lconst 0, 1) := by decide +kernel
theorem dX9_word_72 : decode cX9_word 72 = .ok (.goto 4, 3) := by decide +kernel
theorem dX9_word_75 : decode cX9_word 75 = .ok (.lload_n 1, 1) := by decide +kernel
theorem dX9_word_76 : decode cX9_word 76 = .ok (.lreturn, 1) := by decide +kernel
theorem dX9_number_0 : decode cX9_number 0 = .ok (.aload_n 0, 1) := by decide +kernel
theorem dX9_number_1 : decode cX9_number 1 = .ok (.getfield 216, 3) := by decide +kernel
theorem dX9_number_4 : decode cX9_number 4 = .ok (.ifCond .eq 4, 3) := by decide +kernel
theorem dX9_number_7 : decode cX9_number 7 = .ok (.return_, 1) := by decide +kernel
theorem dX9_number_8 : decode cX9_number 8 = .ok (.aload_n 0, 1) := by decide +kernel
theorem dX9_number_9 : decode cX9_number 9 = .ok (.aload_n 0, 1) := by decide +kernel
theorem dX9_number_10 : decode cX9_number 10 = .ok (.getfield 204, 3) := by decide +kernel
theorem dX9_number_13 : decode cX9_number 13 = .ok (.invokevirtual 207, 3) := by decide +kernel
theorem dX9_number_16 : decode cX9_number 16 = .ok (.invokestatic 213, 3) := by decide +kernel
theorem dX9_number_19 : decode cX9_number 19 = .ok (.istore_n 3, 1) := by decide +kernel
theorem dX9_number_20 : decode cX9_number 20 = .ok (.iconst 0, 1) := by decide +kernel
theorem dX9_number_21 : decode cX9_number 21 = .ok (.istore 4, 2) := by decide +kernel
theorem dX9_number_23 : decode cX9_number 23 = .ok (.aload_n 0, 1) := by decide +kernel
theorem dX9_number_24 : decode cX9_number 24 = .ok (.getfield 204, 3) := by decide +kernel
theorem dX9_number_27 : decode cX9_number 27 = .ok (.istore 5, 2) := by decide +kernel
theorem dX9_number_29 : decode cX9_number 29 = .ok (.iload 5, 2) := by decide +kernel
theorem dX9_number_31 : decode cX9_number 31 = .ok (.aload_n 0, 1) := by decide +kernel
theorem dX9_number_32 : decode cX9_number 32 = .ok (.getfield 201, 3) := by decide +kernel
theorem dX9_number_35 : decode cX9_number 35 = .ok (.if_icmp .ge 44, 3) := by decide +kernel
theorem dX9_number_38 : decode cX9_number 38 = .ok (.iload_n 3, 1) := by decide +kernel
theorem dX9_number_39 : decode cX9_number 39 = .ok (.ifCond .eq 40, 3) := by decide +kernel
theorem dX9_number_42 : decode cX9_number 42 = .ok (.iload 4, 2) := by decide +kernel
theorem dX9_number_44 : decode cX9_number 44 = .ok (.sipush 999, 3) := by decide +kernel
theorem dX9_number_47 : decode cX9_number 47 = .ok (.if_icmp .le 8, 3) := by decide +kernel
theorem dX9_number_50 : decode cX9_number 50 = .ok (.iload 4, 2) := by decide +kernel
theorem dX9_number_52 : decode cX9_number 52 = .ok (.goto 19, 3) := by decide +kernel
theorem dX9_number_55 : decode cX9_number 55 = .ok (.bipush 10, 2) := by decide +kernel
theorem dX9_number_57 : decode cX9_number 57 = .ok (.iload 4, 2) := by decide +kernel
theorem dX9_number_59 : decode cX9_number 59 = .ok (.imul, 1) := by decide +kernel
theorem dX9_number_60 : decode cX9_number 60 = .ok (.aload_n 0, 1) := by decide +kernel
theorem dX9_number_61 : decode cX9_number 61 = .ok (.getfield 31, 3) := by decide +kernel
theorem dX9_number_64 : decode cX9_number 64 = .ok (.iload 5, 2) := by decide +kernel
theorem dX9_number_66 : decode cX9_number 66 = .ok (.iaload, 1) := by decide +kernel
theorem dX9_number_67 : decode cX9_number 67 = .ok (.iadd, 1) := by decide +kernel
theorem dX9_number_68 : decode cX9_number 68 = .ok (.bipush 48, 2) := by decide +kernel
theorem dX9_number_70 : decode cX9_number 70 = .ok (.isub, 1) := by decide +kernel
theorem dX9_number_71 : decode cX9_number 71 = .ok (.istore 4, 2) := by decide +kernel
theorem dX9_number_73 : decode cX9_number 73 = .ok (.iinc 5 1, 3) := by decide +kernel
theorem dX9_number_76 : decode cX9_number 76 = .ok (.goto (-47), 3) := by decide +kernel
theorem dX9_number_79 : decode cX9_number 79 = .ok (.aload_n 0, 1) := by decide +kernel
theorem dX9_number_80 : decode cX9_number 80 = .ok (.iload 4, 2) := by decide +kernel
theorem dX9_number_82 : decode cX9_number 82 = .ok (.putfield 227, 3) := by decide +kernel
theorem dX9_number_85 : decode cX9_number 85 = .ok (.aload_n 0, 1) := by decide +kernel
theorem dX9_number_86 : decode cX9_number 86 = .ok (.iload_n 3, 1) := by decide +kernel
theorem dX9_number_87 : decode cX9_number 87 = .ok (.ifCond .eq 20, 3) := by decide +kernel
theorem dX9_number_90 : decode cX9_number 90 = .ok (.iload 4, 2) := by decide +kernel
theorem dX9_number_92 : decode cX9_number 92 = .ok (.i2l, 1) := by decide +kernel
theorem dX9_number_93 : decode cX9_number 93 = .ok (.iload_n 1, 1) := by decide +kernel
theorem dX9_number_94 : decode cX9_number 94 = .ok (.i2l, 1) := by decide +kernel
theorem dX9_number_95 : decode cX9_number 95 = .ok (.iload_n 2, 1) := by decide +kernel
theorem dX9_number_96 : decode cX9_number 96 = .ok (.i2l, 1) := by decide +kernel
theorem dX9_number_97 : decode cX9_number 97 = .ok (.invokestatic 54, 3) := by decide +kernel
theorem dX9_number_100 : decode cX9_number 100 = .ok (.ifCond .eq 7, 3) := by decide +kernel
theorem dX9_number_103 : decode cX9_number 103 = .ok (.iconst 1, 1) := by decide +kernel
theorem dX9_number_104 : decode cX9_number 104 = .ok (.goto 4, 3) := by decide +kernel
theorem dX9_number_107 : decode cX9_number 107 = .ok (.iconst 0, 1) := by decide +kernel
theorem dX9_number_108 : decode cX9_number 108 = .ok (.invokevirtual 230, 3) := by decide +kernel
theorem dX9_number_111 : decode cX9_number 111 = .ok (.return_, 1) := by decide +kernel
theorem dX9_kindHere_0 : decode cX9_kindHere 0 = .ok (.aload_n 0, 1) := by decide +kernel
theorem dX9_kindHere_1 : decode cX9_kindHere 1 = .ok (.invokevirtual 234, 3) := by decide +kernel
theorem dX9_kindHere_4 : decode cX9_kindHere 4 = .ok (.lstore_n 1, 1) := by decide +kernel
theorem dX9_kindHere_5 : decode cX9_kindHere 5 = .ok (.lload_n 1, 1) := by decide +kernel
theorem dX9_kindHere_6 : decode cX9_kindHere 6 = .ok (.ldc2_w 238, 3) := by decide +kernel
theorem dX9_kindHere_9 : decode cX9_kindHere 9 = .ok (.lcmp, 1) := by decide +kernel
theorem dX9_kindHere_10 : decode cX9_kindHere 10 = .ok (.ifCond .ne 7, 3) := by decide +kernel
theorem dX9_kindHere_13 : decode cX9_kindHere 13 = .ok (.iconst 0, 1) := by decide +kernel
theorem dX9_kindHere_14 : decode cX9_kindHere 14 = .ok (.goto 64, 3) := by decide +kernel
theorem dX9_kindHere_17 : decode cX9_kindHere 17 = .ok (.lload_n 1, 1) := by decide +kernel
theorem dX9_kindHere_18 : decode cX9_kindHere 18 = .ok (.ldc2_w 240, 3) := by decide +kernel
theorem dX9_kindHere_21 : decode cX9_kindHere 21 = .ok (.lcmp, 1) := by decide +kernel
theorem dX9_kindHere_22 : decode cX9_kindHere 22 = .ok (.ifCond .ne 7, 3) := by decide +kernel
theorem dX9_kindHere_25 : decode cX9_kindHere 25 = .ok (.iconst 1, 1) := by decide +kernel
theorem dX9_kindHere_26 : decode cX9_kindHere 26 = .ok (.goto 52, 3) := by decide +kernel
theorem dX9_kindHere_29 : decode cX9_kindHere 29 = .ok (.lload_n 1, 1) := by decide +kernel
theorem dX9_kindHere_30 : decode cX9_kindHere 30 = .ok (.ldc2_w 242, 3) := by decide +kernel
theorem dX9_kindHere_33 : decode cX9_kindHere 33 = .ok (.lcmp, 1) := by decide +kernel
theorem dX9_kindHere_34 : decode cX9_kindHere 34 = .ok (.ifCond .ne 7, 3) := by decide +kernel
theorem dX9_kindHere_37 : decode cX9_kindHere 37 = .ok (.iconst 2, 1) := by decide +kernel
theorem dX9_kindHere_38 : decode cX9_kindHere 38 = .ok (.goto 40, 3) := by decide +kernel
theorem dX9_kindHere_41 : decode cX9_kindHere 41 = .ok (.lload_n 1, 1) := by decide +kernel
theorem dX9_kindHere_42 : decode cX9_kindHere 42 = .ok (.ldc2_w 244, 3) := by decide +kernel
theorem dX9_kindHere_45 : decode cX9_kindHere 45 = .ok (.lcmp, 1) := by decide +kernel
theorem dX9_kindHere_46 : decode cX9_kindHere 46 = .ok (.ifCond .ne 7, 3) := by decide +kernel
theorem dX9_kindHere_49 : decode cX9_kindHere 49 = .ok (.iconst 3, 1) := by decide +kernel
theorem dX9_kindHere_50 : decode cX9_kindHere 50 = .ok (.goto 28, 3) := by decide +kernel
theorem dX9_kindHere_53 : decode cX9_kindHere 53 = .ok (.lload_n 1, 1) := by decide +kernel
theorem dX9_kindHere_54 : decode cX9_kindHere 54 = .ok (.ldc2_w 246, 3) := by decide +kernel
theorem dX9_kindHere_57 : decode cX9_kindHere 57 = .ok (.lcmp, 1) := by decide +kernel
theorem dX9_kindHere_58 : decode cX9_kindHere 58 = .ok (.ifCond .ne 7, 3) := by decide +kernel
theorem dX9_kindHere_61 : decode cX9_kindHere 61 = .ok (.iconst 4, 1) := by decide +kernel
theorem dX9_kindHere_62 : decode cX9_kindHere 62 = .ok (.goto 16, 3) := by decide +kernel
theorem dX9_kindHere_65 : decode cX9_kindHere 65 = .ok (.lload_n 1, 1) := by decide +kernel
theorem dX9_kindHere_66 : decode cX9_kindHere 66 = .ok (.ldc2_w 248, 3) := by decide +kernel
theorem dX9_kindHere_69 : decode cX9_kindHere 69 = .ok (.lcmp, 1) := by decide +kernel
theorem dX9_kindHere_70 : decode cX9_kindHere 70 = .ok (.ifCond .ne 7, 3) := by decide +kernel
theorem dX9_kindHere_73 : decode cX9_kindHere 73 = .ok (.iconst 5, 1) := by decide +kernel
theorem dX9_kindHere_74 : decode cX9_kindHere 74 = .ok (.goto 4, 3) := by decide +kernel
theorem dX9_kindHere_77 : decode cX9_kindHere 77 = .ok (.iconst (-1), 1) := by decide +kernel
theorem dX9_kindHere_78 : decode cX9_kindHere 78 = .ok (.ireturn, 1) := by decide +kernel
theorem dX9_partItem_0 : decode cX9_partItem 0 = .ok (.aload_n 0, 1) := by decide +kernel
theorem dX9_partItem_1 : decode cX9_partItem 1 = .ok (.invokevirtual 234, 3) := by decide +kernel
theorem dX9_partItem_4 : decode cX9_partItem 4 = .ok (.lload_n 1, 1) := by decide +kernel
theorem dX9_partItem_5 : decode cX9_partItem 5 = .ok (.lcmp, 1) := by decide +kernel
theorem dX9_partItem_6 : decode cX9_partItem 6 = .ok (.ifCond .ne 41, 3) := by decide +kernel
theorem dX9_partItem_9 : decode cX9_partItem 9 = .ok (.aload_n 0, 1) := by decide +kernel
theorem dX9_partItem_10 : decode cX9_partItem 10 = .ok (.iconst 1, 1) := by decide +kernel
theorem dX9_partItem_11 : decode cX9_partItem 11 = .ok (.invokevirtual 230, 3) := by decide +kernel
theorem dX9_partItem_14 : decode cX9_partItem 14 = .ok (.aload_n 0, 1) := by decide +kernel
theorem dX9_partItem_15 : decode cX9_partItem 15 = .ok (.iconst 0, 1) := by decide +kernel
theorem dX9_partItem_16 : decode cX9_partItem 16 = .ok (.iload 4, 2) := by decide +kernel
theorem dX9_partItem_18 : decode cX9_partItem 18 = .ok (.invokevirtual 250, 3) := by decide +kernel
theorem dX9_partItem_21 : decode cX9_partItem 21 = .ok (.aload_n 0, 1) := by decide +kernel
theorem dX9_partItem_22 : decode cX9_partItem 22 = .ok (.getfield 7, 3) := by decide +kernel
theorem dX9_partItem_25 : decode cX9_partItem 25 = .ok (.iload_n 3, 1) := by decide +kernel
theorem dX9_partItem_26 : decode cX9_partItem 26 = .ok (.aload_n 0, 1) := by decide +kernel
theorem dX9_partItem_27 : decode cX9_partItem 27 = .ok (.getfield 216, 3) := by decide +kernel
theorem dX9_partItem_30 : decode cX9_partItem 30 = .ok (.ifCond .eq 12, 3) := by decide +kernel
theorem dX9_partItem_33 : decode cX9_partItem 33 = .ok (.aload_n 0, 1) := by decide +kernel
theorem dX9_partItem_34 : decode cX9_partItem 34 = .ok (.getfield 7, 3) := by decide +kernel
theorem dX9_partItem_37 : decode cX9_partItem 37 = .ok (.iload_n 3, 1) := by decide +kernel
theorem dX9_partItem_38 : decode cX9_partItem 38 = .ok (.iaload, 1) := by decide +kernel
theorem dX9_partItem_39 : decode cX9_partItem 39 = .ok (.goto 7, 3) := by decide +kernel
theorem dX9_partItem_42 : decode cX9_partItem 42 = .ok (.aload_n 0, 1) := by decide +kernel
theorem dX9_partItem_43 : decode cX9_partItem 43 = .ok (.getfield 227, 3) := by decide +kernel
theorem dX9_partItem_46 : decode cX9_partItem 46 = .ok (.iastore, 1) := by decide +kernel
theorem dX9_partItem_47 : decode cX9_partItem 47 = .ok (.return_, 1) := by decide +kernel
theorem dX9_mayBe_0 : decode cX9_mayBe 0 = .ok (.aload_n 0, 1) := by decide +kernel
theorem dX9_mayBe_1 : decode cX9_mayBe 1 = .ok (.invokevirtual 234, 3) := by decide +kernel
theorem dX9_mayBe_4 : decode cX9_mayBe 4 = .ok (.lload_n 1, 1) := by decide +kernel
theorem dX9_mayBe_5 : decode cX9_mayBe 5 = .ok (.lcmp, 1) := by decide +kernel
theorem dX9_mayBe_6 : decode cX9_mayBe 6 = .ok (.ifCond .ne 7, 3) := by decide +kernel
theorem dX9_mayBe_9 : decode cX9_mayBe 9 = .ok (.iconst 1, 1) := by decide +kernel
theorem dX9_mayBe_10 : decode cX9_mayBe 10 = .ok (.goto 4, 3) := by decide +kernel
theorem dX9_mayBe_13 : decode cX9_mayBe 13 = .ok (.iconst 0, 1) := by decide +kernel
theorem dX9_mayBe_14 : decode cX9_mayBe 14 = .ok (.istore_n 3, 1) := by decide +kernel
theorem dX9_mayBe_15 : decode cX9_mayBe 15 = .ok (.iload_n 3, 1) := by decide +kernel
theorem dX9_mayBe_16 : decode cX9_mayBe 16 = .ok (.ifCond .eq 8, 3) := by decide +kernel
theorem dX9_mayBe_19 : decode cX9_mayBe 19 = .ok (.aload_n 0, 1) := by decide +kernel
theorem dX9_mayBe_20 : decode cX9_mayBe 20 = .ok (.iconst 1, 1) := by decide +kernel
theorem dX9_mayBe_21 : decode cX9_mayBe 21 = .ok (.invokevirtual 230, 3) := by decide +kernel
theorem dX9_mayBe_24 : decode cX9_mayBe 24 = .ok (.iload_n 3, 1) := by decide +kernel
theorem dX9_mayBe_25 : decode cX9_mayBe 25 = .ok (.ireturn, 1) := by decide +kernel
theorem dX9_childItem_0 : decode cX9_childItem 0 = .ok (.aload_n 0, 1) := by decide +kernel
theorem dX9_childItem_1 : decode cX9_childItem 1 = .ok (.aload_n 0, 1) := by decide +kernel
theorem dX9_childItem_2 : decode cX9_childItem 2 = .ok (.getfield 7, 3) := by decide +kernel
theorem dX9_childItem_5 : decode cX9_childItem 5 = .ok (.iconst 0, 1) := by decide +kernel
theorem dX9_childItem_6 : decode cX9_childItem 6 = .ok (.iaload, 1) := by decide +kernel
theorem dX9_childItem_7 : decode cX9_childItem 7 = .ok (.bipush 6, 2) := by decide +kernel
theorem dX9_childItem_9 : decode cX9_childItem 9 = .ok (.if_icmp .ge 7, 3) := by decide +kernel
theorem dX9_childItem_12 : decode cX9_childItem 12 = .ok (.iconst 1, 1) := by decide +kernel
theorem dX9_childItem_13 : decode cX9_childItem 13 = .ok (.goto 4, 3) := by decide +kernel
theorem dX9_childItem_16 : decode cX9_childItem 16 = .ok (.iconst 0, 1) := by decide +kernel
theorem dX9_childItem_17 : decode cX9_childItem 17 = .ok (.invokevirtual 230, 3) := by decide +kernel
theorem dX9_childItem_20 : decode cX9_childItem 20 = .ok (.aload_n 0, 1) := by decide +kernel
theorem dX9_childItem_21 : decode cX9_childItem 21 = .ok (.getfield 216, 3) := by decide +kernel
theorem dX9_childItem_24 : decode cX9_childItem 24 = .ok (.ifCond .eq 4, 3) := by decide +kernel
theorem dX9_childItem_27 : decode cX9_childItem 27 = .ok (.return_, 1) := by decide +kernel
theorem dX9_childItem_28 : decode cX9_childItem 28 = .ok (.aload_n 0, 1) := by decide +kernel
theorem dX9_childItem_29 : decode cX9_childItem 29 = .ok (.iload_n 1, 1) := by decide +kernel
theorem dX9_childItem_30 : decode cX9_childItem 30 = .ok (.invokevirtual 85, 3) := by decide +kernel
theorem dX9_childItem_33 : decode cX9_childItem 33 = .ok (.istore_n 2, 1) := by decide +kernel
theorem dX9_childItem_34 : decode cX9_childItem 34 = .ok (.aload_n 0, 1) := by decide +kernel
theorem dX9_childItem_35 : decode cX9_childItem 35 = .ok (.ldc2_w 254, 3) := by decide +kernel
theorem dX9_childItem_38 : decode cX9_childItem 38 = .ok (.iload_n 2, 1) := by decide +kernel
theorem dX9_childItem_39 : decode cX9_childItem 39 = .ok (.iconst 1, 1) := by decide +kernel
theorem dX9_childItem_40 : decode cX9_childItem 40 = .ok (.invokestatic 60, 3) := by decide +kernel
theorem dX9_childItem_43 : decode cX9_childItem 43 = .ok (.bipush 99, 2) := by decide +kernel
theorem dX9_childItem_45 : decode cX9_childItem 45 = .ok (.invokevirtual 256, 3) := by decide +kernel
theorem dX9_childItem_48 : decode cX9_childItem 48 = .ok (.aload_n 0, 1) := by decide +kernel
theorem dX9_childItem_49 : decode cX9_childItem 49 = .ok (.ldc2_w 260, 3) := by decide +kernel
theorem dX9_childItem_52 : decode cX9_childItem 52 = .ok (.iload_n 2, 1) := by decide +kernel
theorem dX9_childItem_53 : decode cX9_childItem 53 = .ok (.iconst 2, 1) := by decide +kernel
theorem dX9_childItem_54 : decode cX9_childItem 54 = .ok (.invokestatic 60, 3) := by decide +kernel
theorem dX9_childItem_57 : decode cX9_childItem 57 = .ok (.bipush 9, 2) := by decide +kernel
theorem dX9_childItem_59 : decode cX9_childItem 59 = .ok (.invokevirtual 256, 3) := by decide +kernel
theorem dX9_childItem_62 : decode cX9_childItem 62 = .ok (.aload_n 0, 1) := by decide +kernel
theorem dX9_childItem_63 : decode cX9_childItem 63 = .ok (.getfield 7, 3) := by decide +kernel
theorem dX9_childItem_66 : decode cX9_childItem 66 = .ok (.iload_n 2, 1) := by decide +kernel
theorem dX9_childItem_67 : decode cX9_childItem 67 = .ok (.iconst 3, 1) := by decide +kernel
theorem dX9_childItem_68 : decode cX9_childItem 68 = .ok (.invokestatic 60, 3) := by decide +kernel
theorem dX9_childItem_71 : decode cX9_childItem 71 = .ok (.aload_n 0, 1) := by decide +kernel
theorem dX9_childItem_72 : decode cX9_childItem 72 = .ok (.ldc2_w 262, 3) := by decide +kernel
theorem dX9_childItem_75 : decode cX9_childItem 75 = .ok (.invokevirtual 264, 3) := by decide +kernel
theorem dX9_childItem_78 : decode cX9_childItem 78 = .ok (.ifCond .eq 7, 3) := by decide +kernel
theorem dX9_childItem_81 : decode cX9_childItem 81 = .ok (.iconst 1, 1) := by decide +kernel
theorem dX9_childItem_82 : decode cX9_childItem 82 = .ok (.goto 4, 3) := by decide +kernel
theorem dX9_childItem_85 : decode cX9_childItem 85 = .ok (.iconst 0, 1) := by decide +kernel
theorem dX9_childItem_86 : decode cX9_childItem 86 = .ok (.iastore, 1) := by decide +kernel
theorem dX9_childItem_87 : decode cX9_childItem 87 = .ok (.return_, 1) := by decide +kernel
theorem dX9_seatItem_0 : decode cX9_seatItem 0 = .ok (.aload_n 0, 1) := by decide +kernel
theorem dX9_seatItem_1 : decode cX9_seatItem 1 = .ok (.iconst 1, 1) := by decide +kernel
theorem dX9_seatItem_2 : decode cX9_seatItem 2 = .ok (.invokevirtual 230, 3) := by decide +kernel
theorem dX9_seatItem_5 : decode cX9_seatItem 5 = .ok (.aload_n 0, 1) := by decide +kernel
theorem dX9_seatItem_6 : decode cX9_seatItem 6 = .ok (.iconst 0, 1) := by decide +kernel
theorem dX9_seatItem_7 : decode cX9_seatItem 7 = .ok (.iconst 2, 1) := by decide +kernel
theorem dX9_seatItem_8 : decode cX9_seatItem 8 = .ok (.invokevirtual 250, 3) := by decide +kernel
theorem dX9_seatItem_11 : decode cX9_seatItem 11 = .ok (.aload_n 0, 1) := by decide +kernel
theorem dX9_seatItem_12 : decode cX9_seatItem 12 = .ok (.getfield 216, 3) := by decide +kernel
theorem dX9_seatItem_15 : decode cX9_seatItem 15 = .ok (.ifCond .eq 7, 3) := by decide +kernel
theorem dX9_seatItem_18 : decode cX9_seatItem 18 = .ok (.iconst 0, 1) := by decide +kernel
theorem dX9_seatItem_19 : decode cX9_seatItem 19 = .ok (.goto 7, 3) := by decide +kernel
theorem dX9_seatItem_22 : decode cX9_seatItem 22 = .ok (.aload_n 0, 1) := by decide +kernel
theorem dX9_seatItem_23 : decode cX9_seatItem 23 = .ok (.getfield 227, 3) := by decide +kernel
theorem dX9_seatItem_26 : decode cX9_seatItem 26 = .ok (.istore_n 1, 1) := by decide +kernel
theorem dX9_seatItem_27 : decode cX9_seatItem 27 = .ok (.aload_n 0, 1) := by decide +kernel
theorem dX9_seatItem_28 : decode cX9_seatItem 28 = .ok (.ldc2_w 268, 3) := by decide +kernel
theorem dX9_seatItem_31 : decode cX9_seatItem 31 = .ok (.iload_n 1, 1) := by decide +kernel
theorem dX9_seatItem_32 : decode cX9_seatItem 32 = .ok (.iconst 0, 1) := by decide +kernel
theorem dX9_seatItem_33 : decode cX9_seatItem 33 = .ok (.invokestatic 47, 3) := by decide +kernel
theorem dX9_seatItem_36 : decode cX9_seatItem 36 = .ok (.iconst 5, 1) := by decide +kernel
theorem dX9_seatItem_37 : decode cX9_seatItem 37 = .ok (.invokevirtual 256, 3) := by decide +kernel
theorem dX9_seatItem_40 : decode cX9_seatItem 40 = .ok (.aload_n 0, 1) := by decide +kernel
theorem dX9_seatItem_41 : decode cX9_seatItem 41 = .ok (.ldc2_w 270, 3) := by decide +kernel
theorem dX9_seatItem_44 : decode cX9_seatItem 44 = .ok (.iload_n 1, 1) := by decide +kernel
theorem dX9_seatItem_45 : decode cX9_seatItem 45 = .ok (.iconst 1, 1) := by decide +kernel
theorem dX9_seatItem_46 : decode cX9_seatItem 46 = .ok (.invokestatic 47, 3) := by decide +kernel
theorem dX9_seatItem_49 : decode cX9_seatItem 49 = .ok (.bipush 9, 2) := by decide +kernel
theorem dX9_seatItem_51 : decode cX9_seatItem 51 = .ok (.invokevirtual 256, 3) := by decide +kernel
theorem dX9_seatItem_54 : decode cX9_seatItem 54 = .ok (.aload_n 0, 1) := by decide +kernel
theorem dX9_seatItem_55 : decode cX9_seatItem 55 = .ok (.getfield 7, 3) := by decide +kernel
theorem dX9_seatItem_58 : decode cX9_seatItem 58 = .ok (.iload_n 1, 1) := by decide +kernel
theorem dX9_seatItem_59 : decode cX9_seatItem 59 = .ok (.iconst 2, 1) := by decide +kernel
theorem dX9_seatItem_60 : decode cX9_seatItem 60 = .ok (.invokestatic 47, 3) := by decide +kernel
theorem dX9_seatItem_63 : decode cX9_seatItem 63 = .ok (.aload_n 0, 1) := by decide +kernel
theorem dX9_seatItem_64 : decode cX9_seatItem 64 = .ok (.ldc2_w 272, 3) := by decide +kernel
theorem dX9_seatItem_67 : decode cX9_seatItem 67 = .ok (.invokevirtual 264, 3) := by decide +kernel
theorem dX9_seatItem_70 : decode cX9_seatItem 70 = .ok (.ifCond .eq 7, 3) := by decide +kernel
theorem dX9_seatItem_73 : decode cX9_seatItem 73 = .ok (.iconst 1, 1) := by decide +kernel
theorem dX9_seatItem_74 : decode cX9_seatItem 74 = .ok (.goto 4, 3) := by decide +kernel
theorem dX9_seatItem_77 : decode cX9_seatItem 77 = .ok (.iconst 0, 1) := by decide +kernel
theorem dX9_seatItem_78 : decode cX9_seatItem 78 = .ok (.iastore, 1) := by decide +kernel
theorem dX9_seatItem_79 : decode cX9_seatItem 79 = .ok (.return_, 1) := by decide +kernel
theorem dX9_item_0 : decode cX9_item 0 = .ok (.aload_n 0, 1) := by decide +kernel
theorem dX9_item_1 : decode cX9_item 1 = .ok (.invokevirtual 274, 3) := by decide +kernel
theorem dX9_item_4 : decode cX9_item 4 = .ok (.istore_n 1, 1) := by decide +kernel
theorem dX9_item_5 : decode cX9_item 5 = .ok (.aload_n 0, 1) := by decide +kernel
theorem dX9_item_6 : decode cX9_item 6 = .ok (.invokevirtual 234, 3) := by decide +kernel
theorem dX9_item_9 : decode cX9_item 9 = .ok (.lstore_n 2, 1) := by decide +kernel
theorem dX9_item_10 : decode cX9_item 10 = .ok (.iload_n 1, 1) := by decide +kernel
theorem dX9_item_11 : decode cX9_item 11 = .ok (.ifCond .lt 11, 3) := by decide +kernel
theorem dX9_item_14 : decode cX9_item 14 = .ok (.aload_n 0, 1) := by decide +kernel
theorem dX9_item_15 : decode cX9_item 15 = .ok (.iload_n 1, 1) := by decide +kernel
theorem dX9_item_16 : decode cX9_item 16 = .ok (.invokevirtual 277, 3) := by decide +kernel
theorem dX9_item_19 : decode cX9_item 19 = .ok (.goto 68, 3) := by decide +kernel
theorem dX9_item_22 : decode cX9_item 22 = .ok (.lload_n 2, 1) := by decide +kernel
theorem dX9_item_23 : decode cX9_item 23 = .ok (.ldc2_w 280, 3) := by decide +kernel
theorem dX9_item_26 : decode cX9_item 26 = .ok (.lcmp, 1) := by decide +kernel
theorem dX9_item_27 : decode cX9_item 27 = .ok (.ifCond .ne 10, 3) := by decide +kernel
theorem dX9_item_30 : decode cX9_item 30 = .ok (.aload_n 0, 1) := by decide +kernel
theorem dX9_item_31 : decode cX9_item 31 = .ok (.invokevirtual 282, 3) := by decide +kernel
theorem dX9_item_34 : decode cX9_item 34 = .ok (.goto 53, 3) := by decide +kernel
theorem dX9_item_37 : decode cX9_item 37 = .ok (.aload_n 0, 1) := by decide +kernel
theorem dX9_item_38 : decode cX9_item 38 = .ok (.lload_n 2, 1) := by decide +kernel
theorem dX9_item_39 : decode cX9_item 39 = .ok (.ldc2_w 285, 3) := by decide +kernel
theorem dX9_item_42 : decode cX9_item 42 = .ok (.lcmp, 1) := by decide +kernel
theorem dX9_item_43 : decode cX9_item 43 = .ok (.ifCond .ne 7, 3) := by decide +kernel
theorem dX9_item_46 : decode cX9_item 46 = .ok (.iconst 1, 1) := by decide +kernel
theorem dX9_item_47 : decode cX9_item 47 = .ok (.goto 4, 3) := by decide +kernel
theorem dX9_item_50 : decode cX9_item 50 = .ok (.iconst 0, 1) := by decide +kernel
theorem dX9_item_51 : decode cX9_item 51 = .ok (.invokevirtual 230, 3) := by decide +kernel
theorem dX9_item_54 : decode cX9_item 54 = .ok (.aload_n 0, 1) := by decide +kernel
theorem dX9_item_55 : decode cX9_item 55 = .ok (.iconst 0, 1) := by decide +kernel
theorem dX9_item_56 : decode cX9_item 56 = .ok (.bipush 9, 2) := by decide +kernel
theorem dX9_item_58 : decode cX9_item 58 = .ok (.invokevirtual 250, 3) := by decide +kernel
theorem dX9_item_61 : decode cX9_item 61 = .ok (.aload_n 0, 1) := by decide +kernel
theorem dX9_item_62 : decode cX9_item 62 = .ok (.getfield 7, 3) := by decide +kernel
theorem dX9_item_65 : decode cX9_item 65 = .ok (.iconst 3, 1) := by decide +kernel
theorem dX9_item_66 : decode cX9_item 66 = .ok (.aload_n 0, 1) := by decide +kernel
theorem dX9_item_67 : decode cX9_item 67 = .ok (.getfield 216, 3) := by decide +kernel
theorem dX9_item_70 : decode cX9_item 70 = .ok (.ifCond .eq 12, 3) := by decide +kernel
theorem dX9_item_73 : decode cX9_item 73 = .ok (.aload_n 0, 1) := by decide +kernel
theorem dX9_item_74 : decode cX9_item 74 = .ok (.getfield 7, 3) := by decide +kernel
theorem dX9_item_77 : decode cX9_item 77 = .ok (.iconst 3, 1) := by decide +kernel
theorem dX9_item_78 : decode cX9_item 78 = .ok (.iaload, 1) := by decide +kernel
theorem dX9_item_79 : decode cX9_item 79 = .ok (.goto 7, 3) := by decide +kernel
theorem dX9_item_82 : decode cX9_item 82 = .ok (.aload_n 0, 1) := by decide +kernel
theorem dX9_item_83 : decode cX9_item 83 = .ok (.getfield 227, 3) := by decide +kernel
theorem dX9_item_86 : decode cX9_item 86 = .ok (.iastore, 1) := by decide +kernel
theorem dX9_item_87 : decode cX9_item 87 = .ok (.return_, 1) := by decide +kernel
theorem dX9_car_0 : decode cX9_car 0 = .ok (.aload_n 0, 1) := by decide +kernel
theorem dX9_car_1 : decode cX9_car 1 = .ok (.invokevirtual 287, 3) := by decide +kernel
theorem dX9_car_4 : decode cX9_car 4 = .ok (.aload_n 0, 1) := by decide +kernel
theorem dX9_car_5 : decode cX9_car 5 = .ok (.iconst 0, 1) := by decide +kernel
theorem dX9_car_6 : decode cX9_car 6 = .ok (.putfield 216, 3) := by decide +kernel
theorem dX9_car_9 : decode cX9_car 9 = .ok (.aload_n 0, 1) := by decide +kernel
theorem dX9_car_10 : decode cX9_car 10 = .ok (.iconst 0, 1) := by decide +kernel
theorem dX9_car_11 : decode cX9_car 11 = .ok (.putfield 201, 3) := by decide +kernel
theorem dX9_car_14 : decode cX9_car 14 = .ok (.aload_n 0, 1) := by decide +kernel
theorem dX9_car_15 : decode cX9_car 15 = .ok (.invokevirtual 220, 3) := by decide +kernel
theorem dX9_car_18 : decode cX9_car 18 = .ok (.iconst 1, 1) := by decide +kernel
theorem dX9_car_19 : decode cX9_car 19 = .ok (.istore_n 1, 1) := by decide +kernel
theorem dX9_car_20 : decode cX9_car 20 = .ok (.aload_n 0, 1) := by decide +kernel
theorem dX9_car_21 : decode cX9_car 21 = .ok (.invokevirtual 290, 3) := by decide +kernel
theorem dX9_car_24 : decode cX9_car 24 = .ok (.aload_n 0, 1) := by decide +kernel
theorem dX9_car_25 : decode cX9_car 25 = .ok (.getfield 216, 3) := by decide +kernel
theorem dX9_car_28 : decode cX9_car 28 = .ok (.ifCond .ne 31, 3) := by decide +kernel
theorem dX9_car_31 : decode cX9_car 31 = .ok (.aload_n 0, 1) := by decide +kernel
theorem dX9_car_32 : decode cX9_car 32 = .ok (.aload_n 0, 1) := by decide +kernel
theorem dX9_car_33 : decode cX9_car 33 = .ok (.getfield 204, 3) := by decide +kernel
theorem dX9_car_36 : decode cX9_car 36 = .ok (.invokevirtual 207, 3) := by decide +kernel
theorem dX9_car_39 : decode cX9_car 39 = .ok (.bipush 59, 2) := by decide +kernel
theorem dX9_car_41 : decode cX9_car 41 = .ok (.if_icmp .ne 18, 3) := by decide +kernel
theorem dX9_car_44 : decode cX9_car 44 = .ok (.aload_n 0, 1) := by decide +kernel
theorem dX9_car_45 : decode cX9_car 45 = .ok (.iconst 1, 1) := by decide +kernel
theorem dX9_car_46 : decode cX9_car 46 = .ok (.invokevirtual 230, 3) := by decide +kernel
theorem dX9_car_49 : decode cX9_car 49 = .ok (.aload_n 0, 1) := by decide +kernel
theorem dX9_car_50 : decode cX9_car 50 = .ok (.invokevirtual 290, 3) := by decide +kernel
theorem dX9_car_53 : decode cX9_car 53 = .ok (.iinc 1 1, 3) := by decide +kernel
theorem dX9_car_56 : decode cX9_car 56 = .ok (.goto (-32), 3) := by decide +kernel
theorem dX9_car_59 : decode cX9_car 59 = .ok (.aload_n 0, 1) := by decide +kernel
theorem dX9_car_60 : decode cX9_car 60 = .ok (.aload_n 0, 1) := by decide +kernel
theorem dX9_car_61 : decode cX9_car 61 = .ok (.getfield 216, 3) := by decide +kernel
theorem dX9_car_64 : decode cX9_car 64 = .ok (.ifCond .ne 14, 3) := by decide +kernel
theorem dX9_car_67 : decode cX9_car 67 = .ok (.aload_n 0, 1) := by decide +kernel
theorem dX9_car_68 : decode cX9_car 68 = .ok (.getfield 204, 3) := by decide +kernel
theorem dX9_car_71 : decode cX9_car 71 = .ok (.aload_n 0, 1) := by decide +kernel
theorem dX9_car_72 : decode cX9_car 72 = .ok (.getfield 190, 3) := by decide +kernel
theorem dX9_car_75 : decode cX9_car 75 = .ok (.if_icmp .ge 7, 3) := by decide +kernel
theorem dX9_car_78 : decode cX9_car 78 = .ok (.iconst 1, 1) := by decide +kernel
theorem dX9_car_79 : decode cX9_car 79 = .ok (.goto 4, 3) := by decide +kernel
theorem dX9_car_82 : decode cX9_car 82 = .ok (.iconst 0, 1) := by decide +kernel
theorem dX9_car_83 : decode cX9_car 83 = .ok (.putfield 216, 3) := by decide +kernel
theorem dX9_car_86 : decode cX9_car 86 = .ok (.aload_n 0, 1) := by decide +kernel
theorem dX9_car_87 : decode cX9_car 87 = .ok (.getfield 216, 3) := by decide +kernel
theorem dX9_car_90 : decode cX9_car 90 = .ok (.ifCond .eq 7, 3) := by decide +kernel
theorem dX9_car_93 : decode cX9_car 93 = .ok (.aload_n 0, 1) := by decide +kernel
theorem dX9_car_94 : decode cX9_car 94 = .ok (.invokevirtual 293, 3) := by decide +kernel
theorem dX9_car_97 : decode cX9_car 97 = .ok (.aload_n 0, 1) := by decide +kernel
theorem dX9_car_98 : decode cX9_car 98 = .ok (.iconst 0, 1) := by decide +kernel
theorem dX9_car_99 : decode cX9_car 99 = .ok (.putfield 190, 3) := by decide +kernel
theorem dX9_car_102 : decode cX9_car 102 = .ok (.aload_n 0, 1) := by decide +kernel
theorem dX9_car_103 : decode cX9_car 103 = .ok (.getfield 216, 3) := by decide +kernel
theorem dX9_car_106 : decode cX9_car 106 = .ok (.ifCond .eq 12, 3) := by decide +kernel
theorem dX9_car_109 : decode cX9_car 109 = .ok (.iconst (-1), 1) := by decide +kernel
theorem dX9_car_110 : decode cX9_car 110 = .ok (.aload_n 0, 1) := by decide +kernel
theorem dX9_car_111 : decode cX9_car 111 = .ok (.getfield 204, 3) := by decide +kernel
theorem dX9_car_114 : decode cX9_car 114 = .ok (.isub, 1) := by decide +kernel
theorem dX9_car_115 : decode cX9_car 115 = .ok (.goto 4, 3) := by decide +kernel
theorem dX9_car_118 : decode cX9_car 118 = .ok (.iload_n 1, 1) := by decide +kernel
theorem dX9_car_119 : decode cX9_car 119 = .ok (.ireturn, 1) := by decide +kernel
theorem dX9_isOne_0 : decode cX9_isOne 0 = .ok (.iload_n 0, 1) := by decide +kernel
theorem dX9_isOne_1 : decode cX9_isOne 1 = .ok (.i2l, 1) := by decide +kernel
theorem dX9_isOne_2 : decode cX9_isOne 2 = .ok (.lconst 0, 1) := by decide +kernel
theorem dX9_isOne_3 : decode cX9_isOne 3 = .ok (.ldc2_w 296, 3) := by decide +kernel
theorem dX9_isOne_6 : decode cX9_isOne 6 = .ok (.invokestatic 54, 3) := by decide +kernel
theorem dX9_isOne_9 : decode cX9_isOne 9 = .ok (.ireturn, 1) := by decide +kernel
theorem dX9_sheet_0 : decode cX9_sheet 0 = .ok (.iload_n 1, 1) := by decide +kernel
theorem dX9_sheet_1 : decode cX9_sheet 1 = .ok (.invokestatic 298, 3) := by decide +kernel
theorem dX9_sheet_4 : decode cX9_sheet 4 = .ok (.ifCond .eq 25, 3) := by decide +kernel
theorem dX9_sheet_7 : decode cX9_sheet 7 = .ok (.iload_n 2, 1) := by decide +kernel
theorem dX9_sheet_8 : decode cX9_sheet 8 = .ok (.ifCond .eq 28, 3) := by decide +kernel
theorem dX9_sheet_11 : decode cX9_sheet 11 = .ok (.iload_n 2, 1) := by decide +kernel
theorem dX9_sheet_12 : decode cX9_sheet 12 = .ok (.bipush 8, 2) := by decide +kernel
theorem dX9_sheet_14 : decode cX9_sheet 14 = .ok (.if_icmp .eq 22, 3) := by decide +kernel
theorem dX9_sheet_17 : decode cX9_sheet 17 = .ok (.iload_n 2, 1) := by decide +kernel
theorem dX9_sheet_18 : decode cX9_sheet 18 = .ok (.bipush 16, 2) := by decide +kernel
theorem dX9_sheet_20 : decode cX9_sheet 20 = .ok (.if_icmp .eq 16, 3) := by decide +kernel
theorem dX9_sheet_23 : decode cX9_sheet 23 = .ok (.iload_n 2, 1) := by decide +kernel
theorem dX9_sheet_24 : decode cX9_sheet 24 = .ok (.bipush 64, 2) := by decide +kernel
theorem dX9_sheet_26 : decode cX9_sheet 26 = .ok (.if_icmp .eq 10, 3) := by decide +kernel
theorem dX9_sheet_29 : decode cX9_sheet 29 = .ok (.aload_n 0, 1) := by decide +kernel
theorem dX9_sheet_30 : decode cX9_sheet 30 = .ok (.ldc 51, 2) := by decide +kernel
theorem dX9_sheet_32 : decode cX9_sheet 32 = .ok (.invokevirtual 75, 3) := by decide +kernel
theorem dX9_sheet_35 : decode cX9_sheet 35 = .ok (.ireturn, 1) := by decide +kernel
theorem dX9_sheet_36 : decode cX9_sheet 36 = .ok (.iload_n 3, 1) := by decide +kernel
theorem dX9_sheet_37 : decode cX9_sheet 37 = .ok (.ifCond .ge 10, 3) := by decide +kernel
theorem dX9_sheet_40 : decode cX9_sheet 40 = .ok (.aload_n 0, 1) := by decide +kernel
theorem dX9_sheet_41 : decode cX9_sheet 41 = .ok (.ldc 170, 2) := by decide +kernel
theorem dX9_sheet_43 : decode cX9_sheet 43 = .ok (.invokevirtual 75, 3) := by decide +kernel
theorem dX9_sheet_46 : decode cX9_sheet 46 = .ok (.ireturn, 1) := by decide +kernel
theorem dX9_sheet_47 : decode cX9_sheet 47 = .ok (.iload_n 3, 1) := by decide +kernel
theorem dX9_sheet_48 : decode cX9_sheet 48 = .ok (.bipush 40, 2) := by decide +kernel
theorem dX9_sheet_50 : decode cX9_sheet 50 = .ok (.if_icmp .le 10, 3) := by decide +kernel
theorem dX9_sheet_53 : decode cX9_sheet 53 = .ok (.aload_n 0, 1) := by decide +kernel
theorem dX9_sheet_54 : decode cX9_sheet 54 = .ok (.ldc 51, 2) := by decide +kernel
theorem dX9_sheet_56 : decode cX9_sheet 56 = .ok (.invokevirtual 75, 3) := by decide +kernel
theorem dX9_sheet_59 : decode cX9_sheet 59 = .ok (.ireturn, 1) := by decide +kernel
theorem dX9_sheet_60 : decode cX9_sheet 60 = .ok (.aload_n 0, 1) := by decide +kernel
theorem dX9_sheet_61 : decode cX9_sheet 61 = .ok (.getfield 34, 3) := by decide +kernel
theorem dX9_sheet_64 : decode cX9_sheet 64 = .ok (.iload_n 1, 1) := by decide +kernel
theorem dX9_sheet_65 : decode cX9_sheet 65 = .ok (.iload_n 2, 1) := by decide +kernel
theorem dX9_sheet_66 : decode cX9_sheet 66 = .ok (.iastore, 1) := by decide +kernel
theorem dX9_sheet_67 : decode cX9_sheet 67 = .ok (.aload_n 0, 1) := by decide +kernel
theorem dX9_sheet_68 : decode cX9_sheet 68 = .ok (.getfield 37, 3) := by decide +kernel
theorem dX9_sheet_71 : decode cX9_sheet 71 = .ok (.iload_n 1, 1) := by decide +kernel
theorem dX9_sheet_72 : decode cX9_sheet 72 = .ok (.iload_n 2, 1) := by decide +kernel
theorem dX9_sheet_73 : decode cX9_sheet 73 = .ok (.ifCond .ne 7, 3) := by decide +kernel
theorem dX9_sheet_76 : decode cX9_sheet 76 = .ok (.iconst 0, 1) := by decide +kernel
theorem dX9_sheet_77 : decode cX9_sheet 77 = .ok (.goto 4, 3) := by decide +kernel
theorem dX9_sheet_80 : decode cX9_sheet 80 = .ok (.iload_n 3, 1) := by decide +kernel
theorem dX9_sheet_81 : decode cX9_sheet 81 = .ok (.iastore, 1) := by decide +kernel
theorem dX9_sheet_82 : decode cX9_sheet 82 = .ok (.iconst 0, 1) := by decide +kernel
theorem dX9_sheet_83 : decode cX9_sheet 83 = .ok (.istore 4, 2) := by decide +kernel
theorem dX9_sheet_85 : decode cX9_sheet 85 = .ok (.iload 4, 2) := by decide +kernel
theorem dX9_sheet_87 : decode cX9_sheet 87 = .ok (.bipush 40, 2) := by decide +kernel
theorem dX9_sheet_89 : decode cX9_sheet 89 = .ok (.if_icmp .ge 22, 3) := by decide +kernel
theorem dX9_sheet_92 : decode cX9_sheet 92 = .ok (.aload_n 0, 1) := by decide +kernel
theorem dX9_sheet_93 : decode cX9_sheet 93 = .ok (.getfield 40, 3) := by decide +kernel
theorem dX9_sheet_96 : decode cX9_sheet 96 = .ok (.bipush 40, 2) := by decide +kernel
theorem dX9_sheet_98 : decode cX9_sheet 98 = .ok (.iload_n 1, 1) := by decide +kernel
theorem dX9_sheet_99 : decode cX9_sheet 99 = .ok (.imul, 1) := by decide +kernel
theorem dX9_sheet_100 : decode cX9_sheet 100 = .ok (.iload 4, 2) := by decide +kernel
theorem dX9_sheet_102 : decode cX9_sheet 102 = .ok (.iadd, 1) := by decide +kernel
theorem dX9_sheet_103 : decode cX9_sheet 103 = .ok (.lconst 0, 1) := by decide +kernel
theorem dX9_sheet_104 : decode cX9_sheet 104 = .ok (.lastore, 1) := by decide +kernel
theorem dX9_sheet_105 : decode cX9_sheet 105 = .ok (.iinc 4 1, 3) := by decide +kernel
theorem dX9_sheet_108 : decode cX9_sheet 108 = .ok (.goto (-23), 3) := by decide +kernel
theorem dX9_sheet_111 : decode cX9_sheet 111 = .ok (.aload_n 0, 1) := by decide +kernel
theorem dX9_sheet_112 : decode cX9_sheet 112 = .ok (.getfield 37, 3) := by decide +kernel
theorem dX9_sheet_115 : decode cX9_sheet 115 = .ok (.iload_n 1, 1) := by decide +kernel
theorem dX9_sheet_116 : decode cX9_sheet 116 = .ok (.iaload, 1) := by decide +kernel
theorem dX9_sheet_117 : decode cX9_sheet 117 = .ok (.ireturn, 1) := by decide +kernel
theorem dX9_narrowed_0 : decode cX9_narrowed 0 = .ok (.iload_n 0, 1) := by decide +kernel
theorem dX9_narrowed_1 : decode cX9_narrowed 1 = .ok (.bipush 8, 2) := by decide +kernel
theorem dX9_narrowed_3 : decode cX9_narrowed 3 = .ok (.if_icmp .ne 10, 3) := by decide +kernel
theorem dX9_narrowed_6 : decode cX9_narrowed 6 = .ok (.lload_n 1, 1) := by decide +kernel
theorem dX9_narrowed_7 : decode cX9_narrowed 7 = .ok (.l2i, 1) := by decide +kernel
theorem dX9_narrowed_8 : decode cX9_narrowed 8 = .ok (.i2b, 1) := by decide +kernel
theorem dX9_narrowed_9 : decode cX9_narrowed 9 = .ok (.i2l, 1) := by decide +kernel
theorem dX9_narrowed_10 : decode cX9_narrowed 10 = .ok (.goto 17, 3) := by decide +kernel
theorem dX9_narrowed_13 : decode cX9_narrowed 13 = .ok (.iload_n 0, 1) := by decide +kernel
theorem dX9_narrowed_14 : decode cX9_narrowed 14 = .ok (.bipush 16, 2) := by decide +kernel
theorem dX9_narrowed_16 : decode cX9_narrowed 16 = .ok (.if_icmp .ne 10, 3) := by decide +kernel
theorem dX9_narrowed_19 : decode cX9_narrowed 19 = .ok (.lload_n 1, 1) := by decide +kernel
theorem dX9_narrowed_20 : decode cX9_narrowed 20 = .ok (.l2i, 1) := by decide +kernel
theorem dX9_narrowed_21 : decode cX9_narrowed 21 = .ok (.i2s, 1) := by decide +kernel
theorem dX9_narrowed_22 : decode cX9_narrowed 22 = .ok (.i2l, 1) := by decide +kernel
theorem dX9_narrowed_23 : decode cX9_narrowed 23 = .ok (.goto 4, 3) := by decide +kernel
theorem dX9_narrowed_26 : decode cX9_narrowed 26 = .ok (.lload_n 1, 1) := by decide +kernel
theorem dX9_narrowed_27 : decode cX9_narrowed 27 = .ok (.lreturn, 1) := by decide +kernel
theorem dX9_wrongSheet_0 : decode cX9_wrongSheet 0 = .ok (.iload_n 1, 1) := by decide +kernel
theorem dX9_wrongSheet_1 : decode cX9_wrongSheet 1 = .ok (.invokestatic 298, 3) := by decide +kernel
theorem dX9_wrongSheet_4 : decode cX9_wrongSheet 4 = .ok (.ifCond .ne 8, 3) := by decide +kernel
theorem dX9_wrongSheet_7 : decode cX9_wrongSheet 7 = .ok (.ldc 51, 2) := by decide +kernel
theorem dX9_wrongSheet_9 : decode cX9_wrongSheet 9 = .ok (.goto 19, 3) := by decide +kernel
theorem dX9_wrongSheet_12 : decode cX9_wrongSheet 12 = .ok (.aload_n 0, 1) := by decide +kernel
theorem dX9_wrongSheet_13 : decode cX9_wrongSheet 13 = .ok (.getfield 34, 3) := by decide +kernel
theorem dX9_wrongSheet_16 : decode cX9_wrongSheet 16 = .ok (.iload_n 1, 1) := by decide +kernel
theorem dX9_wrongSheet_17 : decode cX9_wrongSheet 17 = .ok (.iaload, 1) := by decide +kernel
theorem dX9_wrongSheet_18 : decode cX9_wrongSheet 18 = .ok (.ifCond .ne 9, 3) := by decide +kernel
theorem dX9_wrongSheet_21 : decode cX9_wrongSheet 21 = .ok (.ldc_w 301, 3) := by decide +kernel
theorem dX9_wrongSheet_24 : decode cX9_wrongSheet 24 = .ok (.goto 4, 3) := by decide +kernel
theorem dX9_wrongSheet_27 : decode cX9_wrongSheet 27 = .ok (.iconst 0, 1) := by decide +kernel
theorem dX9_wrongSheet_28 : decode cX9_wrongSheet 28 = .ok (.ireturn, 1) := by decide +kernel
theorem dX9_write_0 : decode cX9_write 0 = .ok (.aload_n 0, 1) := by decide +kernel
theorem dX9_write_1 : decode cX9_write 1 = .ok (.iload_n 1, 1) := by decide +kernel
theorem dX9_write_2 : decode cX9_write 2 = .ok (.invokevirtual 302, 3) := by decide +kernel
theorem dX9_write_5 : decode cX9_write 5 = .ok (.istore 5, 2) := by decide +kernel
theorem dX9_write_7 : decode cX9_write 7 = .ok (.iload 5, 2) := by decide +kernel
theorem dX9_write_9 : decode cX9_write 9 = .ok (.ifCond .eq 11, 3) := by decide +kernel
theorem dX9_write_12 : decode cX9_write 12 = .ok (.aload_n 0, 1) := by decide +kernel
theorem dX9_write_13 : decode cX9_write 13 = .ok (.iload 5, 2) := by decide +kernel
theorem dX9_write_15 : decode cX9_write 15 = .ok (.invokevirtual 75, 3) := by decide +kernel
theorem dX9_write_18 : decode cX9_write 18 = .ok (.i2l, 1) := by decide +kernel
theorem dX9_write_19 : decode cX9_write 19 = .ok (.lreturn, 1) := by decide +kernel
theorem dX9_write_20 : decode cX9_write 20 = .ok (.iload_n 2, 1) := by decide +kernel
theorem dX9_write_21 : decode cX9_write 21 = .ok (.i2l, 1) := by decide +kernel
theorem dX9_write_22 : decode cX9_write 22 = .ok (.lconst 0, 1) := by decide +kernel
theorem dX9_write_23 : decode cX9_write 23 = .ok (.aload_n 0, 1) := by decide +kernel
theorem dX9_write_24 : decode cX9_write 24 = .ok (.getfield 37, 3) := by decide +kernel
theorem dX9_write_27 : decode cX9_write 27 = .ok (.iload_n 1, 1) := by decide +kernel
theorem dX9_write_28 : decode cX9_write 28 = .ok (.iaload, 1) := by decide +kernel
theorem dX9_write_29 : decode cX9_write 29 = .ok (.iconst 1, 1) := by decide +kernel
theorem dX9_write_30 : decode cX9_write 30 = .ok (.isub, 1) := by decide +kernel
theorem dX9_write_31 : decode cX9_write 31 = .ok (.i2l, 1) := by decide +kernel
theorem dX9_write_32 : decode cX9_write 32 = .ok (.invokestatic 54, 3) := by decide +kernel
theorem dX9_write_35 : decode cX9_write 35 = .ok (.ifCond .ne 11, 3) := by decide +kernel
theorem dX9_write_38 : decode cX9_write 38 = .ok (.aload_n 0, 1) := by decide +kernel
theorem dX9_write_39 : decode cX9_write 39 = .ok (.ldc 51, 2) := by decide +kernel
theorem dX9_write_41 : decode cX9_write 41 = .ok (.invokevirtual 75, 3) := by decide +kernel
theorem dX9_write_44 : decode cX9_write 44 = .ok (.i2l, 1) := by decide +kernel
theorem dX9_write_45 : decode cX9_write 45 = .ok (.lreturn, 1) := by decide +kernel
theorem dX9_write_46 : decode cX9_write 46 = .ok (.aload_n 0, 1) := by decide +kernel
theorem dX9_write_47 : decode cX9_write 47 = .ok (.getfield 40, 3) := by decide +kernel
theorem dX9_write_50 : decode cX9_write 50 = .ok (.bipush 40, 2) := by decide +kernel
theorem dX9_write_52 : decode cX9_write 52 = .ok (.iload_n 1, 1) := by decide +kernel
theorem dX9_write_53 : decode cX9_write 53 = .ok (.imul, 1) := by decide +kernel
theorem dX9_write_54 : decode cX9_write 54 = .ok (.iload_n 2, 1) := by decide +kernel
theorem dX9_write_55 : decode cX9_write 55 = .ok (.iadd, 1) := by decide +kernel
theorem dX9_write_56 : decode cX9_write 56 = .ok (.laload, 1) := by decide +kernel
theorem dX9_write_57 : decode cX9_write 57 = .ok (.lstore 6, 2) := by decide +kernel
theorem dX9_write_59 : decode cX9_write 59 = .ok (.aload_n 0, 1) := by decide +kernel
theorem dX9_write_60 : decode cX9_write 60 = .ok (.getfield 40, 3) := by decide +kernel
theorem dX9_write_63 : decode cX9_write 63 = .ok (.bipush 40, 2) := by decide +kernel
theorem dX9_write_65 : decode cX9_write 65 = .ok (.iload_n 1, 1) := by decide +kernel
theorem dX9_write_66 : decode cX9_write 66 = .ok (.imul, 1) := by decide +kernel
theorem dX9_write_67 : decode cX9_write 67 = .ok (.iload_n 2, 1) := by decide +kernel
theorem dX9_write_68 : decode cX9_write 68 = .ok (.iadd, 1) := by decide +kernel
theorem dX9_write_69 : decode cX9_write 69 = .ok (.aload_n 0, 1) := by decide +kernel
theorem dX9_write_70 : decode cX9_write 70 = .ok (.getfield 34, 3) := by decide +kernel
theorem dX9_write_73 : decode cX9_write 73 = .ok (.iload_n 1, 1) := by decide +kernel
theorem dX9_write_74 : decode cX9_write 74 = .ok (.iaload, 1) := by decide +kernel
theorem dX9_write_75 : decode cX9_write 75 = .ok (.lload_n 3, 1) := by decide +kernel
theorem dX9_write_76 : decode cX9_write 76 = .ok (.invokestatic 305, 3) := by decide +kernel
theorem dX9_write_79 : decode cX9_write 79 = .ok (.lastore, 1) := by decide +kernel
theorem dX9_write_80 : decode cX9_write 80 = .ok (.lload 6, 2) := by decide +kernel
theorem dX9_write_82 : decode cX9_write 82 = .ok (.lreturn, 1) := by decide +kernel
theorem dX9_copy_0 : decode cX9_copy 0 = .ok (.iload_n 1, 1) := by decide +kernel
theorem dX9_copy_1 : decode cX9_copy 1 = .ok (.invokestatic 298, 3) := by decide +kernel
theorem dX9_copy_4 : decode cX9_copy 4 = .ok (.ifCond .eq 10, 3) := by decide +kernel
theorem dX9_copy_7 : decode cX9_copy 7 = .ok (.iload_n 3, 1) := by decide +kernel
theorem dX9_copy_8 : decode cX9_copy 8 = .ok (.invokestatic 298, 3) := by decide +kernel
theorem dX9_copy_11 : decode cX9_copy 11 = .ok (.ifCond .ne 10, 3) := by decide +kernel
theorem dX9_copy_14 : decode cX9_copy 14 = .ok (.aload_n 0, 1) := by decide +kernel
theorem dX9_copy_15 : decode cX9_copy 15 = .ok (.ldc 51, 2) := by decide +kernel
theorem dX9_copy_17 : decode cX9_copy 17 = .ok (.invokevirtual 75, 3) := by decide +kernel
theorem dX9_copy_20 : decode cX9_copy 20 = .ok (.ireturn, 1) := by decide +kernel
theorem dX9_copy_21 : decode cX9_copy 21 = .ok (.aload_n 0, 1) := by decide +kernel
theorem dX9_copy_22 : decode cX9_copy 22 = .ok (.getfield 34, 3) := by decide +kernel
theorem dX9_copy_25 : decode cX9_copy 25 = .ok (.iload_n 1, 1) := by decide +kernel
theorem dX9_copy_26 : decode cX9_copy 26 = .ok (.iaload, 1) := by decide +kernel
theorem dX9_copy_27 : decode cX9_copy 27 = .ok (.ifCond .eq 12, 3) := by decide +kernel
theorem dX9_copy_30 : decode cX9_copy 30 = .ok (.aload_n 0, 1) := by decide +kernel
theorem dX9_copy_31 : decode cX9_copy 31 = .ok (.getfield 34, 3) := by decide +kernel
theorem dX9_copy_34 : decode cX9_copy 34 = .ok (.iload_n 3, 1) := by decide +kernel
theorem dX9_copy_35 : decode cX9_copy 35 = .ok (.iaload, 1) := by decide +kernel
theorem dX9_copy_36 : decode cX9_copy 36 = .ok (.ifCond .ne 11, 3) := by decide +kernel
theorem dX9_copy_39 : decode cX9_copy 39 = .ok (.aload_n 0, 1) := by decide +kernel
theorem dX9_copy_40 : decode cX9_copy 40 = .ok (.ldc_w 301, 3) := by decide +kernel
theorem dX9_copy_43 : decode cX9_copy 43 = .ok (.invokevirtual 75, 3) := by decide +kernel
theorem dX9_copy_46 : decode cX9_copy 46 = .ok (.ireturn, 1) := by decide +kernel
theorem dX9_copy_47 : decode cX9_copy 47 = .ok (.aload_n 0, 1) := by decide +kernel
theorem dX9_copy_48 : decode cX9_copy 48 = .ok (.getfield 34, 3) := by decide +kernel
theorem dX9_copy_51 : decode cX9_copy 51 = .ok (.iload_n 1, 1) := by decide +kernel
theorem dX9_copy_52 : decode cX9_copy 52 = .ok (.iaload, 1) := by decide +kernel
theorem dX9_copy_53 : decode cX9_copy 53 = .ok (.aload_n 0, 1) := by decide +kernel
theorem dX9_copy_54 : decode cX9_copy 54 = .ok (.getfield 34, 3) := by decide +kernel
theorem dX9_copy_57 : decode cX9_copy 57 = .ok (.iload_n 3, 1) := by decide +kernel
theorem dX9_copy_58 : decode cX9_copy 58 = .ok (.iaload, 1) := by decide +kernel
theorem dX9_copy_59 : decode cX9_copy 59 = .ok (.if_icmp .eq 10, 3) := by decide +kernel
theorem dX9_copy_62 : decode cX9_copy 62 = .ok (.aload_n 0, 1) := by decide +kernel
theorem dX9_copy_63 : decode cX9_copy 63 = .ok (.ldc 114, 2) := by decide +kernel
theorem dX9_copy_65 : decode cX9_copy 65 = .ok (.invokevirtual 75, 3) := by decide +kernel
theorem dX9_copy_68 : decode cX9_copy 68 = .ok (.ireturn, 1) := by decide +kernel
theorem dX9_copy_69 : decode cX9_copy 69 = .ok (.iload_n 2, 1) := by decide +kernel
theorem dX9_copy_70 : decode cX9_copy 70 = .ok (.ifCond .lt 40, 3) := by decide +kernel
theorem dX9_copy_73 : decode cX9_copy 73 = .ok (.iload 4, 2) := by decide +kernel
theorem dX9_copy_75 : decode cX9_copy 75 = .ok (.ifCond .lt 35, 3) := by decide +kernel
theorem dX9_copy_78 : decode cX9_copy 78 = .ok (.iload 5, 2) := by decide +kernel
theorem dX9_copy_80 : decode cX9_copy 80 = .ok (.ifCond .lt 30, 3) := by decide +kernel
theorem dX9_copy_83 : decode cX9_copy 83 = .ok (.iload 5, 2) := by decide +kernel
theorem dX9_copy_85 : decode cX9_copy 85 = .ok (.aload_n 0, 1) := by decide +kernel
theorem dX9_copy_86 : decode cX9_copy 86 = .ok (.getfield 37, 3) := by decide +kernel
theorem dX9_copy_89 : decode cX9_copy 89 = .ok (.iload_n 1, 1) := by decide +kernel
theorem dX9_copy_90 : decode cX9_copy 90 = .ok (.iaload, 1) := by decide +kernel
theorem dX9_copy_91 : decode cX9_copy 91 = .ok (.iload_n 2, 1) := by decide +kernel
theorem dX9_copy_92 : decode cX9_copy 92 = .ok (.isub, 1) := by decide +kernel
theorem dX9_copy_93 : decode cX9_copy 93 = .ok (.if_icmp .gt 17, 3) := by decide +kernel
theorem dX9_copy_96 : decode cX9_copy 96 = .ok (.iload 5, 2) := by decide +kernel
theorem dX9_copy_98 : decode cX9_copy 98 = .ok (.aload_n 0, 1) := by decide +kernel
theorem dX9_copy_99 : decode cX9_copy 99 = .ok (.getfield 37, 3) := by decide +kernel
theorem dX9_copy_102 : decode cX9_copy 102 = .ok (.iload_n 3, 1) := by decide +kernel
theorem dX9_copy_103 : decode cX9_copy 103 = .ok (.iaload, 1) := by decide +kernel
theorem dX9_copy_104 : decode cX9_copy 104 = .ok (.iload 4, 2) := by decide +kernel
theorem dX9_copy_106 : decode cX9_copy 106 = .ok (.isub, 1) := by decide +kernel
theorem dX9_copy_107 : decode cX9_copy 107 = .ok (.if_icmp .le 10, 3) := by decide +kernel
theorem dX9_copy_110 : decode cX9_copy 110 = .ok (.aload_n 0, 1) := by decide +kernel
theorem dX9_copy_111 : decode cX9_copy 111 = .ok (.ldc 51, 2) := by decide +kernel
theorem dX9_copy_113 : decode cX9_copy 113 = .ok (.invokevirtual 75, 3) := by decide +kernel
theorem dX9_copy_116 : decode cX9_copy 116 = .ok (.ireturn, 1) := by decide +kernel
theorem dX9_copy_117 : decode cX9_copy 117 = .ok (.iconst 0, 1) := by decide +kernel
theorem dX9_copy_118 : decode cX9_copy 118 = .ok (.istore 6, 2) := by decide +kernel
theorem dX9_copy_120 : decode cX9_copy 120 = .ok (.iload 6, 2) := by decide +kernel
theorem dX9_copy_122 : decode cX9_copy 122 = .ok (.iload 5, 2) := by decide +kernel
theorem dX9_copy_124 : decode cX9_copy 124 = .ok (.if_icmp .ge 30, 3) := by decide +kernel
theorem dX9_copy_127 : decode cX9_copy 127 = .ok (.aload_n 0, 1) := by decide +kernel
theorem dX9_copy_128 : decode cX9_copy 128 = .ok (.getfield 44, 3) := by decide +kernel
theorem dX9_copy_131 : decode cX9_copy 131 = .ok (.iload 6, 2) := by decide +kernel
theorem dX9_copy_133 : decode cX9_copy 133 = .ok (.aload_n 0, 1) := by decide +kernel
theorem dX9_copy_134 : decode cX9_copy 134 = .ok (.getfield 40, 3) := by decide +kernel
theorem dX9_copy_137 : decode cX9_copy 137 = .ok (.bipush 40, 2) := by decide +kernel
theorem dX9_copy_139 : decode cX9_copy 139 = .ok (.iload_n 1, 1) := by decide +kernel
theorem dX9_copy_140 : decode cX9_copy 140 = .ok (.imul, 1) := by decide +kernel
theorem dX9_copy_141 : decode cX9_copy 141 = .ok (.iload_n 2, 1) := by decide +kernel
theorem dX9_copy_142 : decode cX9_copy 142 = .ok (.iadd, 1) := by decide +kernel
theorem dX9_copy_143 : decode cX9_copy 143 = .ok (.iload 6, 2) := by decide +kernel
theorem dX9_copy_145 : decode cX9_copy 145 = .ok (.iadd, 1) := by decide +kernel
theorem dX9_copy_146 : decode cX9_copy 146 = .ok (.laload, 1) := by decide +kernel
theorem dX9_copy_147 : decode cX9_copy 147 = .ok (.lastore, 1) := by decide +kernel
theorem dX9_copy_148 : decode cX9_copy 148 = .ok (.iinc 6 1, 3) := by decide +kernel
theorem dX9_copy_151 : decode cX9_copy 151 = .ok (.goto (-31), 3) := by decide +kernel
theorem dX9_copy_154 : decode cX9_copy 154 = .ok (.iconst 0, 1) := by decide +kernel
theorem dX9_copy_155 : decode cX9_copy 155 = .ok (.istore 6, 2) := by decide +kernel
theorem dX9_copy_157 : decode cX9_copy 157 = .ok (.iload 6, 2) := by decide +kernel
theorem dX9_copy_159 : decode cX9_copy 159 = .ok (.iload 5, 2) := by decide +kernel
theorem dX9_copy_161 : decode cX9_copy 161 = .ok (.if_icmp .ge 31, 3) := by decide +kernel
theorem dX9_copy_164 : decode cX9_copy 164 = .ok (.aload_n 0, 1) := by decide +kernel
theorem dX9_copy_165 : decode cX9_copy 165 = .ok (.getfield 40, 3) := by decide +kernel
theorem dX9_copy_168 : decode cX9_copy 168 = .ok (.bipush 40, 2) := by decide +kernel
theorem dX9_copy_170 : decode cX9_copy 170 = .ok (.iload_n 3, 1) := by decide +kernel
theorem dX9_copy_171 : decode cX9_copy 171 = .ok (.imul, 1) := by decide +kernel
theorem dX9_copy_172 : decode cX9_copy 172 = .ok (.iload 4, 2) := by decide +kernel
theorem dX9_copy_174 : decode cX9_copy 174 = .ok (.iadd, 1) := by decide +kernel
theorem dX9_copy_175 : decode cX9_copy 175 = .ok (.iload 6, 2) := by decide +kernel
theorem dX9_copy_177 : decode cX9_copy 177 = .ok (.iadd, 1) := by decide +kernel
theorem dX9_copy_178 : decode cX9_copy 178 = .ok (.aload_n 0, 1) := by decide +kernel
theorem dX9_copy_179 : decode cX9_copy 179 = .ok (.getfield 44, 3) := by decide +kernel
theorem dX9_copy_182 : decode cX9_copy 182 = .ok (.iload 6, 2) := by decide +kernel
theorem dX9_copy_184 : decode cX9_copy 184 = .ok (.laload, 1) := by decide +kernel
theorem dX9_copy_185 : decode cX9_copy 185 = .ok (.lastore, 1) := by decide +kernel
theorem dX9_copy_186 : decode cX9_copy 186 = .ok (.iinc 6 1, 3) := by decide +kernel
theorem dX9_copy_189 : decode cX9_copy 189 = .ok (.goto (-32), 3) := by decide +kernel
theorem dX9_copy_192 : decode cX9_copy 192 = .ok (.iload 5, 2) := by decide +kernel
theorem dX9_copy_194 : decode cX9_copy 194 = .ok (.ireturn, 1) := by decide +kernel
theorem dX9_lays_0 : decode cX9_lays 0 = .ok (.aload_n 0, 1) := by decide +kernel
theorem dX9_lays_1 : decode cX9_lays 1 = .ok (.iload_n 1, 1) := by decide +kernel
theorem dX9_lays_2 : decode cX9_lays 2 = .ok (.invokevirtual 302, 3) := by decide +kernel
theorem dX9_lays_5 : decode cX9_lays 5 = .ok (.istore_n 2, 1) := by decide +kernel
theorem dX9_lays_6 : decode cX9_lays 6 = .ok (.iload_n 2, 1) := by decide +kernel
theorem dX9_lays_7 : decode cX9_lays 7 = .ok (.ifCond .eq 9, 3) := by decide +kernel
theorem dX9_lays_10 : decode cX9_lays 10 = .ok (.aload_n 0, 1) := by decide +kernel
theorem dX9_lays_11 : decode cX9_lays 11 = .ok (.iload_n 2, 1) := by decide +kernel
theorem dX9_lays_12 : decode cX9_lays 12 = .ok (.invokevirtual 75, 3) := by decide +kernel
theorem dX9_lays_15 : decode cX9_lays 15 = .ok (.ireturn, 1) := by decide +kernel
theorem dX9_lays_16 : decode cX9_lays 16 = .ok (.iconst 0, 1) := by decide +kernel
theorem dX9_lays_17 : decode cX9_lays 17 = .ok (.istore_n 3, 1) := by decide +kernel
theorem dX9_lays_18 : decode cX9_lays 18 = .ok (.iconst 0, 1) := by decide +kernel
theorem dX9_lays_19 : decode cX9_lays 19 = .ok (.istore 4, 2) := by decide +kernel
theorem dX9_lays_21 : decode cX9_lays 21 = .ok (.iload 4, 2) := by decide +kernel
theorem dX9_lays_23 : decode cX9_lays 23 = .ok (.aload_n 0, 1) := by decide +kernel
theorem dX9_lays_24 : decode cX9_lays 24 = .ok (.getfield 37, 3) := by decide +kernel
theorem dX9_lays_27 : decode cX9_lays 27 = .ok (.iload_n 1, 1) := by decide +kernel
theorem dX9_lays_28 : decode cX9_lays 28 = .ok (.iaload, 1) := by decide +kernel
theorem dX9_lays_29 : decode cX9_lays 29 = .ok (.if_icmp .ge 93, 3) := by decide +kernel
theorem dX9_lays_32 : decode cX9_lays 32 = .ok (.iload 4, 2) := by decide +kernel
theorem dX9_lays_34 : decode cX9_lays 34 = .ok (.aload_n 0, 1) := by decide +kernel
theorem dX9_lays_35 : decode cX9_lays 35 = .ok (.getfield 7, 3) := by decide +kernel
theorem dX9_lays_38 : decode cX9_lays 38 = .ok (.iconst 0, 1) := by decide +kernel
theorem dX9_lays_39 : decode cX9_lays 39 = .ok (.iaload, 1) := by decide +kernel
theorem dX9_lays_40 : decode cX9_lays 40 = .ok (.if_icmp .ge 82, 3) := by decide +kernel
theorem dX9_lays_43 : decode cX9_lays 43 = .ok (.aload_n 0, 1) := by decide +kernel
theorem dX9_lays_44 : decode cX9_lays 44 = .ok (.getfield 40, 3) := by decide +kernel
theorem dX9_lays_47 : decode cX9_lays 47 = .ok (.bipush 40, 2) := by decide +kernel
theorem dX9_lays_49 : decode cX9_lays 49 = .ok (.iload_n 1, 1) := by decide +kernel
theorem dX9_lays_50 : decode cX9_lays 50 = .ok (.imul, 1) := by decide +kernel
theorem dX9_lays_51 : decode cX9_lays 51 = .ok (.iload 4, 2) := by decide +kernel
theorem dX9_lays_53 : decode cX9_lays 53 = .ok (.iadd, 1) := by decide +kernel
theorem dX9_lays_54 : decode cX9_lays 54 = .ok (.laload, 1) := by decide +kernel
theorem dX9_lays_55 : decode cX9_lays 55 = .ok (.lconst 0, 1) := by decide +kernel
theorem dX9_lays_56 : decode cX9_lays 56 = .ok (.ldc2_w 66, 3) := by decide +kernel
theorem dX9_lays_59 : decode cX9_lays 59 = .ok (.invokestatic 54, 3) := by decide +kernel
theorem dX9_lays_62 : decode cX9_lays 62 = .ok (.istore 5, 2) := by decide +kernel
theorem dX9_lays_64 : decode cX9_lays 64 = .ok (.aload_n 0, 1) := by decide +kernel
theorem dX9_lays_65 : decode cX9_lays 65 = .ok (.getfield 7, 3) := by decide +kernel
theorem dX9_lays_68 : decode cX9_lays 68 = .ok (.iload 4, 2) := by decide +kernel
theorem dX9_lays_70 : decode cX9_lays 70 = .ok (.iconst 2, 1) := by decide +kernel
theorem dX9_lays_71 : decode cX9_lays 71 = .ok (.invokestatic 60, 3) := by decide +kernel
theorem dX9_lays_74 : decode cX9_lays 74 = .ok (.iload 5, 2) := by decide +kernel
theorem dX9_lays_76 : decode cX9_lays 76 = .ok (.ifCond .eq 19, 3) := by decide +kernel
theorem dX9_lays_79 : decode cX9_lays 79 = .ok (.aload_n 0, 1) := by decide +kernel
theorem dX9_lays_80 : decode cX9_lays 80 = .ok (.getfield 40, 3) := by decide +kernel
theorem dX9_lays_83 : decode cX9_lays 83 = .ok (.bipush 40, 2) := by decide +kernel
theorem dX9_lays_85 : decode cX9_lays 85 = .ok (.iload_n 1, 1) := by decide +kernel
theorem dX9_lays_86 : decode cX9_lays 86 = .ok (.imul, 1) := by decide +kernel
theorem dX9_lays_87 : decode cX9_lays 87 = .ok (.iload 4, 2) := by decide +kernel
theorem dX9_lays_89 : decode cX9_lays 89 = .ok (.iadd, 1) := by decide +kernel
theorem dX9_lays_90 : decode cX9_lays 90 = .ok (.laload, 1) := by decide +kernel
theorem dX9_lays_91 : decode cX9_lays 91 = .ok (.l2i, 1) := by decide +kernel
theorem dX9_lays_92 : decode cX9_lays 92 = .ok (.goto 10, 3) := by decide +kernel
theorem dX9_lays_95 : decode cX9_lays 95 = .ok (.aload_n 0, 1) := by decide +kernel
theorem dX9_lays_96 : decode cX9_lays 96 = .ok (.iload 4, 2) := by decide +kernel
theorem dX9_lays_98 : decode cX9_lays 98 = .ok (.iconst 2, 1) := by decide +kernel
theorem dX9_lays_99 : decode cX9_lays 99 = .ok (.invokevirtual 94, 3) := by decide +kernel
theorem dX9_lays_102 : decode cX9_lays 102 = .ok (.iastore, 1) := by decide +kernel
theorem dX9_lays_103 : decode cX9_lays 103 = .ok (.iload_n 3, 1) := by decide +kernel
theorem dX9_lays_104 : decode cX9_lays 104 = .ok (.iload 5, 2) := by decide +kernel
theorem dX9_lays_106 : decode cX9_lays 106 = .ok (.ifCond .eq 7, 3) := by decide +kernel
theorem dX9_lays_109 : decode cX9_lays 109 = .ok (.iconst 1, 1) := by decide +kernel
theorem dX9_lays_110 : decode cX9_lays 110 = .ok (.goto 4, 3) := by decide +kernel
theorem dX9_lays_113 : decode cX9_lays 113 = .ok (.iconst 0, 1) := by decide +kernel
theorem dX9_lays_114 : decode cX9_lays 114 = .ok (.iadd, 1) := by decide +kernel
theorem dX9_lays_115 : decode cX9_lays 115 = .ok (.istore_n 3, 1) := by decide +kernel
theorem dX9_lays_116 : decode cX9_lays 116 = .ok (.iinc 4 1, 3) := by decide +kernel
theorem dX9_lays_119 : decode cX9_lays 119 = .ok (.goto (-98), 3) := by decide +kernel
theorem dX9_lays_122 : decode cX9_lays 122 = .ok (.iload_n 3, 1) := by decide +kernel
theorem dX9_lays_123 : decode cX9_lays 123 = .ok (.ireturn, 1) := by decide +kernel
theorem dX9_wrongBook_0 : decode cX9_wrongBook 0 = .ok (.aload_n 0, 1) := by decide +kernel
theorem dX9_wrongBook_1 : decode cX9_wrongBook 1 = .ok (.iload_n 1, 1) := by decide +kernel
theorem dX9_wrongBook_2 : decode cX9_wrongBook 2 = .ok (.invokevirtual 302, 3) := by decide +kernel
theorem dX9_wrongBook_5 : decode cX9_wrongBook 5 = .ok (.istore_n 3, 1) := by decide +kernel
theorem dX9_wrongBook_6 : decode cX9_wrongBook 6 = .ok (.iload_n 3, 1) := by decide +kernel
theorem dX9_wrongBook_7 : decode cX9_wrongBook 7 = .ok (.ifCond .eq 7, 3) := by decide +kernel
theorem dX9_wrongBook_10 : decode cX9_wrongBook 10 = .ok (.iload_n 3, 1) := by decide +kernel
theorem dX9_wrongBook_11 : decode cX9_wrongBook 11 = .ok (.goto 17, 3) := by decide +kernel
theorem dX9_wrongBook_14 : decode cX9_wrongBook 14 = .ok (.aload_n 0, 1) := by decide +kernel
theorem dX9_wrongBook_15 : decode cX9_wrongBook 15 = .ok (.iload_n 2, 1) := by decide +kernel
theorem dX9_wrongBook_16 : decode cX9_wrongBook 16 = .ok (.invokevirtual 100, 3) := by decide +kernel
theorem dX9_wrongBook_19 : decode cX9_wrongBook 19 = .ok (.ifCond .eq 7, 3) := by decide +kernel
theorem dX9_wrongBook_22 : decode cX9_wrongBook 22 = .ok (.iconst 0, 1) := by decide +kernel
theorem dX9_wrongBook_23 : decode cX9_wrongBook 23 = .ok (.goto 5, 3) := by decide +kernel
theorem dX9_wrongBook_26 : decode cX9_wrongBook 26 = .ok (.ldc 51, 2) := by decide +kernel
theorem dX9_wrongBook_28 : decode cX9_wrongBook 28 = .ok (.ireturn, 1) := by decide +kernel
theorem dX9_book_0 : decode cX9_book 0 = .ok (.aload_n 0, 1) := by decide +kernel
theorem dX9_book_1 : decode cX9_book 1 = .ok (.iload_n 1, 1) := by decide +kernel
theorem dX9_book_2 : decode cX9_book 2 = .ok (.iload_n 2, 1) := by decide +kernel
theorem dX9_book_3 : decode cX9_book 3 = .ok (.invokevirtual 309, 3) := by decide +kernel
theorem dX9_book_6 : decode cX9_book 6 = .ok (.istore_n 3, 1) := by decide +kernel
theorem dX9_book_7 : decode cX9_book 7 = .ok (.iload_n 3, 1) := by decide +kernel
theorem dX9_book_8 : decode cX9_book 8 = .ok (.ifCond .eq 9, 3) := by decide +kernel
theorem dX9_book_11 : decode cX9_book 11 = .ok (.aload_n 0, 1) := by decide +kernel
theorem dX9_book_12 : decode cX9_book 12 = .ok (.iload_n 3, 1) := by decide +kernel
theorem dX9_book_13 : decode cX9_book 13 = .ok (.invokevirtual 75, 3) := by decide +kernel
theorem dX9_book_16 : decode cX9_book 16 = .ok (.ireturn, 1) := by decide +kernel
theorem dX9_book_17 : decode cX9_book 17 = .ok (.aload_n 0, 1) := by decide +kernel
theorem dX9_book_18 : decode cX9_book 18 = .ok (.invokevirtual 154, 3) := by decide +kernel
theorem dX9_book_21 : decode cX9_book 21 = .ok (.iconst 0, 1) := by decide +kernel
theorem dX9_book_22 : decode cX9_book 22 = .ok (.istore 4, 2) := by decide +kernel
theorem dX9_book_24 : decode cX9_book 24 = .ok (.iload 4, 2) := by decide +kernel
theorem dX9_book_26 : decode cX9_book 26 = .ok (.aload_n 0, 1) := by decide +kernel
theorem dX9_book_27 : decode cX9_book 27 = .ok (.getfield 37, 3) := by decide +kernel
theorem dX9_book_30 : decode cX9_book 30 = .ok (.iload_n 1, 1) := by decide +kernel
theorem dX9_book_31 : decode cX9_book 31 = .ok (.iaload, 1) := by decide +kernel
theorem dX9_book_32 : decode cX9_book 32 = .ok (.if_icmp .ge 41, 3) := by decide +kernel
theorem dX9_book_35 : decode cX9_book 35 = .ok (.aload_n 0, 1) := by decide +kernel
theorem dX9_book_36 : decode cX9_book 36 = .ok (.getfield 40, 3) := by decide +kernel
theorem dX9_book_39 : decode cX9_book 39 = .ok (.bipush 40, 2) := by decide +kernel
theorem dX9_book_41 : decode cX9_book 41 = .ok (.iload_n 1, 1) := by decide +kernel
theorem dX9_book_42 : decode cX9_book 42 = .ok (.imul, 1) := by decide +kernel
theorem dX9_book_43 : decode cX9_book 43 = .ok (.iload 4, 2) := by decide +kernel
theorem dX9_book_45 : decode cX9_book 45 = .ok (.iadd, 1) := by decide +kernel
theorem dX9_book_46 : decode cX9_book 46 = .ok (.aload_n 0, 1) := by decide +kernel
theorem dX9_book_47 : decode cX9_book 47 = .ok (.getfield 34, 3) := by decide +kernel
theorem dX9_book_50 : decode cX9_book 50 = .ok (.iload_n 1, 1) := by decide +kernel
theorem dX9_book_51 : decode cX9_book 51 = .ok (.iaload, 1) := by decide +kernel
theorem dX9_book_52 : decode cX9_book 52 = .ok (.aload_n 0, 1) := by decide +kernel
theorem dX9_book_53 : decode cX9_book 53 = .ok (.iload_n 2, 1) := by decide +kernel
theorem dX9_book_54 : decode cX9_book 54 = .ok (.iconst 2, 1) := by decide +kernel
theorem dX9_book_55 : decode cX9_book 55 = .ok (.invokevirtual 94, 3) := by decide +kernel
theorem dX9_book_58 : decode cX9_book 58 = .ok (.i2l, 1) := by decide +kernel
theorem dX9_book_59 : decode cX9_book 59 = .ok (.invokestatic 305, 3) := by decide +kernel
theorem dX9_book_62 : decode cX9_book 62 = .ok (.lastore, 1) := by decide +kernel
theorem dX9_book_63 : decode cX9_book 63 = .ok (.aload_n 0, 1) := by decide +kernel
theorem dX9_book_64 : decode cX9_book 64 = .ok (.invokevirtual 139, 3) := by decide +kernel
theorem dX9_book_67 : decode cX9_book 67 = .ok (.iinc 4 1, 3) := by decide +kernel
theorem dX9_book_70 : decode cX9_book 70 = .ok (.goto (-46), 3) := by decide +kernel
theorem dX9_book_73 : decode cX9_book 73 = .ok (.aload_n 0, 1) := by decide +kernel
theorem dX9_book_74 : decode cX9_book 74 = .ok (.aload_n 0, 1) := by decide +kernel
theorem dX9_book_75 : decode cX9_book 75 = .ok (.getfield 37, 3) := by decide +kernel
theorem dX9_book_78 : decode cX9_book 78 = .ok (.iload_n 1, 1) := by decide +kernel
theorem dX9_book_79 : decode cX9_book 79 = .ok (.iaload, 1) := by decide +kernel
theorem dX9_book_80 : decode cX9_book 80 = .ok (.invokevirtual 157, 3) := by decide +kernel
theorem dX9_book_83 : decode cX9_book 83 = .ok (.ireturn, 1) := by decide +kernel
theorem dX9_isBook_0 : decode cX9_isBook 0 = .ok (.iconst 0, 1) := by decide +kernel
theorem dX9_isBook_1 : decode cX9_isBook 1 = .ok (.istore_n 3, 1) := by decide +kernel
theorem dX9_isBook_2 : decode cX9_isBook 2 = .ok (.iload_n 3, 1) := by decide +kernel
theorem dX9_isBook_3 : decode cX9_isBook 3 = .ok (.aload_n 0, 1) := by decide +kernel
theorem dX9_isBook_4 : decode cX9_isBook 4 = .ok (.getfield 37, 3) := by decide +kernel
theorem dX9_isBook_7 : decode cX9_isBook 7 = .ok (.iload_n 1, 1) := by decide +kernel
theorem dX9_isBook_8 : decode cX9_isBook 8 = .ok (.iaload, 1) := by decide +kernel
theorem dX9_isBook_9 : decode cX9_isBook 9 = .ok (.if_icmp .ge 37, 3) := by decide +kernel
theorem dX9_isBook_12 : decode cX9_isBook 12 = .ok (.aload_n 0, 1) := by decide +kernel
theorem dX9_isBook_13 : decode cX9_isBook 13 = .ok (.getfield 40, 3) := by decide +kernel
theorem dX9_isBook_16 : decode cX9_isBook 16 = .ok (.bipush 40, 2) := by decide +kernel
theorem dX9_isBook_18 : decode cX9_isBook 18 = .ok (.iload_n 1, 1) := by decide +kernel
theorem dX9_isBook_19 : decode cX9_isBook 19 = .ok (.imul, 1) := by decide +kernel
theorem dX9_isBook_20 : decode cX9_isBook 20 = .ok (.iload_n 3, 1) := by decide +kernel
theorem dX9_isBook_21 : decode cX9_isBook 21 = .ok (.iadd, 1) := by decide +kernel
theorem dX9_isBook_22 : decode cX9_isBook 22 = .ok (.laload, 1) := by decide +kernel
theorem dX9_isBook_23 : decode cX9_isBook 23 = .ok (.aload_n 0, 1) := by decide +kernel
theorem dX9_isBook_24 : decode cX9_isBook 24 = .ok (.iload_n 2, 1) := by decide +kernel
theorem dX9_isBook_25 : decode cX9_isBook 25 = .ok (.iconst 2, 1) := by decide +kernel
theorem dX9_isBook_26 : decode cX9_isBook 26 = .ok (.invokevirtual 94, 3) := by decide +kernel
theorem dX9_isBook_29 : decode cX9_isBook 29 = .ok (.i2l, 1) := by decide +kernel
theorem dX9_isBook_30 : decode cX9_isBook 30 = .ok (.lcmp, 1) := by decide +kernel
theorem dX9_isBook_31 : decode cX9_isBook 31 = .ok (.ifCond .eq 5, 3) := by decide +kernel
theorem dX9_isBook_34 : decode cX9_isBook 34 = .ok (.iconst 0, 1) := by decide +kernel
theorem dX9_isBook_35 : decode cX9_isBook 35 = .ok (.ireturn, 1) := by decide +kernel
theorem dX9_isBook_36 : decode cX9_isBook 36 = .ok (.aload_n 0, 1) := by decide +kernel
theorem dX9_isBook_37 : decode cX9_isBook 37 = .ok (.invokevirtual 139, 3) := by decide +kernel
theorem dX9_isBook_40 : decode cX9_isBook 40 = .ok (.iinc 3 1, 3) := by decide +kernel
theorem dX9_isBook_43 : decode cX9_isBook 43 = .ok (.goto (-41), 3) := by decide +kernel
theorem dX9_isBook_46 : decode cX9_isBook 46 = .ok (.iconst 1, 1) := by decide +kernel
theorem dX9_isBook_47 : decode cX9_isBook 47 = .ok (.ireturn, 1) := by decide +kernel
theorem dX9_read_0 : decode cX9_read 0 = .ok (.aload_n 0, 1) := by decide +kernel
theorem dX9_read_1 : decode cX9_read 1 = .ok (.iload_n 1, 1) := by decide +kernel
theorem dX9_read_2 : decode cX9_read 2 = .ok (.iload_n 2, 1) := by decide +kernel
theorem dX9_read_3 : decode cX9_read 3 = .ok (.invokevirtual 309, 3) := by decide +kernel
theorem dX9_read_6 : decode cX9_read 6 = .ok (.istore_n 3, 1) := by decide +kernel
theorem dX9_read_7 : decode cX9_read 7 = .ok (.iload_n 3, 1) := by decide +kernel
theorem dX9_read_8 : decode cX9_read 8 = .ok (.ifCond .eq 9, 3) := by decide +kernel
theorem dX9_read_11 : decode cX9_read 11 = .ok (.aload_n 0, 1) := by decide +kernel
theorem dX9_read_12 : decode cX9_read 12 = .ok (.iload_n 3, 1) := by decide +kernel
theorem dX9_read_13 : decode cX9_read 13 = .ok (.invokevirtual 75, 3) := by decide +kernel
theorem dX9_read_16 : decode cX9_read 16 = .ok (.ireturn, 1) := by decide +kernel
theorem dX9_read_17 : decode cX9_read 17 = .ok (.aload_n 0, 1) := by decide +kernel
theorem dX9_read_18 : decode cX9_read 18 = .ok (.iload_n 2, 1) := by decide +kernel
theorem dX9_read_19 : decode cX9_read 19 = .ok (.invokevirtual 91, 3) := by decide +kernel
theorem dX9_read_22 : decode cX9_read 22 = .ok (.ifCond .ge 7, 3) := by decide +kernel
theorem dX9_read_25 : decode cX9_read 25 = .ok (.iconst 1, 1) := by decide +kernel
theorem dX9_read_26 : decode cX9_read 26 = .ok (.goto 5, 3) := by decide +kernel
theorem dX9_read_29 : decode cX9_read 29 = .ok (.bipush 10, 2) := by decide +kernel
theorem dX9_read_31 : decode cX9_read 31 = .ok (.istore 4, 2) := by decide +kernel
theorem dX9_read_33 : decode cX9_read 33 = .ok (.aload_n 0, 1) := by decide +kernel
theorem dX9_read_34 : decode cX9_read 34 = .ok (.invokevirtual 154, 3) := by decide +kernel
theorem dX9_read_37 : decode cX9_read 37 = .ok (.iconst 0, 1) := by decide +kernel
theorem dX9_read_38 : decode cX9_read 38 = .ok (.istore 5, 2) := by decide +kernel
theorem dX9_read_40 : decode cX9_read 40 = .ok (.iconst 0, 1) := by decide +kernel
theorem dX9_read_41 : decode cX9_read 41 = .ok (.istore 6, 2) := by decide +kernel
theorem dX9_read_43 : decode cX9_read 43 = .ok (.iload 6, 2) := by decide +kernel
theorem dX9_read_45 : decode cX9_read 45 = .ok (.bipush 6, 2) := by decide +kernel
theorem dX9_read_47 : decode cX9_read 47 = .ok (.iload 4, 2) := by decide +kernel
theorem dX9_read_49 : decode cX9_read 49 = .ok (.imul, 1) := by decide +kernel
theorem dX9_read_50 : decode cX9_read 50 = .ok (.if_icmp .ge 62, 3) := by decide +kernel
theorem dX9_read_53 : decode cX9_read 53 = .ok (.aload_n 0, 1) := by decide +kernel
theorem dX9_read_54 : decode cX9_read 54 = .ok (.getfield 7, 3) := by decide +kernel
theorem dX9_read_57 : decode cX9_read 57 = .ok (.iload_n 2, 1) := by decide +kernel
theorem dX9_read_58 : decode cX9_read 58 = .ok (.iconst 0, 1) := by decide +kernel
theorem dX9_read_59 : decode cX9_read 59 = .ok (.invokestatic 60, 3) := by decide +kernel
theorem dX9_read_62 : decode cX9_read 62 = .ok (.iload 6, 2) := by decide +kernel
theorem dX9_read_64 : decode cX9_read 64 = .ok (.iload 4, 2) := by decide +kernel
theorem dX9_read_66 : decode cX9_read 66 = .ok (.idiv, 1) := by decide +kernel
theorem dX9_read_67 : decode cX9_read 67 = .ok (.iastore, 1) := by decide +kernel
theorem dX9_read_68 : decode cX9_read 68 = .ok (.aload_n 0, 1) := by decide +kernel
theorem dX9_read_69 : decode cX9_read 69 = .ok (.getfield 7, 3) := by decide +kernel
theorem dX9_read_72 : decode cX9_read 72 = .ok (.iload_n 2, 1) := by decide +kernel
theorem dX9_read_73 : decode cX9_read 73 = .ok (.iconst 5, 1) := by decide +kernel
theorem dX9_read_74 : decode cX9_read 74 = .ok (.invokestatic 60, 3) := by decide +kernel
theorem dX9_read_77 : decode cX9_read 77 = .ok (.iload 6, 2) := by decide +kernel
theorem dX9_read_79 : decode cX9_read 79 = .ok (.iload 4, 2) := by decide +kernel
theorem dX9_read_81 : decode cX9_read 81 = .ok (.irem, 1) := by decide +kernel
theorem dX9_read_82 : decode cX9_read 82 = .ok (.iastore, 1) := by decide +kernel
theorem dX9_read_83 : decode cX9_read 83 = .ok (.aload_n 0, 1) := by decide +kernel
theorem dX9_read_84 : decode cX9_read 84 = .ok (.iload 5, 2) := by decide +kernel
theorem dX9_read_86 : decode cX9_read 86 = .ok (.aload_n 0, 1) := by decide +kernel
theorem dX9_read_87 : decode cX9_read 87 = .ok (.iload_n 1, 1) := by decide +kernel
theorem dX9_read_88 : decode cX9_read 88 = .ok (.iload_n 2, 1) := by decide +kernel
theorem dX9_read_89 : decode cX9_read 89 = .ok (.invokevirtual 312, 3) := by decide +kernel
theorem dX9_read_92 : decode cX9_read 92 = .ok (.ifCond .eq 7, 3) := by decide +kernel
theorem dX9_read_95 : decode cX9_read 95 = .ok (.iconst 1, 1) := by decide +kernel
theorem dX9_read_96 : decode cX9_read 96 = .ok (.goto 4, 3) := by decide +kernel
theorem dX9_read_99 : decode cX9_read 99 = .ok (.iconst 0, 1) := by decide +kernel
theorem dX9_read_100 : decode cX9_read 100 = .ok (.iadd, 1) := by decide +kernel
theorem dX9_read_101 : decode cX9_read 101 = .ok (.invokevirtual 157, 3) := by decide +kernel
theorem dX9_read_104 : decode cX9_read 104 = .ok (.istore 5, 2) := by decide +kernel
theorem dX9_read_106 : decode cX9_read 106 = .ok (.iinc 6 1, 3) := by decide +kernel
theorem dX9_read_109 : decode cX9_read 109 = .ok (.goto (-66), 3) := by decide +kernel
theorem dX9_read_112 : decode cX9_read 112 = .ok (.iload 5, 2) := by decide +kernel
theorem dX9_read_114 : decode cX9_read 114 = .ok (.ireturn, 1) := by decide +kernel
theorem dX9_image_0 : decode cX9_image 0 = .ok (.iconst 0, 1) := by decide +kernel
theorem dX9_image_1 : decode cX9_image 1 = .ok (.istore_n 1, 1) := by decide +kernel
theorem dX9_image_2 : decode cX9_image 2 = .ok (.iload_n 1, 1) := by decide +kernel
theorem dX9_image_3 : decode cX9_image 3 = .ok (.bipush 55, 2) := by decide +kernel
theorem dX9_image_5 : decode cX9_image 5 = .ok (.if_icmp .ge 21, 3) := by decide +kernel
theorem dX9_image_8 : decode cX9_image 8 = .ok (.aload_n 0, 1) := by decide +kernel
theorem dX9_image_9 : decode cX9_image 9 = .ok (.getfield 13, 3) := by decide +kernel
theorem dX9_image_12 : decode cX9_image 12 = .ok (.iload_n 1, 1) := by decide +kernel
theorem dX9_image_13 : decode cX9_image 13 = .ok (.aload_n 0, 1) := by decide +kernel
theorem dX9_image_14 : decode cX9_image 14 = .ok (.getfield 7, 3) := by decide +kernel
theorem dX9_image_17 : decode cX9_image 17 = .ok (.iload_n 1, 1) := by decide +kernel
theorem dX9_image_18 : decode cX9_image 18 = .ok (.iaload, 1) := by decide +kernel
theorem dX9_image_19 : decode cX9_image 19 = .ok (.iastore, 1) := by decide +kernel
theorem dX9_image_20 : decode cX9_image 20 = .ok (.iinc 1 1, 3) := by decide +kernel
theorem dX9_image_23 : decode cX9_image 23 = .ok (.goto (-21), 3) := by decide +kernel
theorem dX9_image_26 : decode cX9_image 26 = .ok (.aload_n 0, 1) := by decide +kernel
theorem dX9_image_27 : decode cX9_image 27 = .ok (.iconst 1, 1) := by decide +kernel
theorem dX9_image_28 : decode cX9_image 28 = .ok (.putfield 315, 3) := by decide +kernel
theorem dX9_image_31 : decode cX9_image 31 = .ok (.iconst 1, 1) := by decide +kernel
theorem dX9_image_32 : decode cX9_image 32 = .ok (.ireturn, 1) := by decide +kernel
theorem dX9_undo_0 : decode cX9_undo 0 = .ok (.aload_n 0, 1) := by decide +kernel
theorem dX9_undo_1 : decode cX9_undo 1 = .ok (.getfield 315, 3) := by decide +kernel
theorem dX9_undo_4 : decode cX9_undo 4 = .ok (.ifCond .ne 10, 3) := by decide +kernel
theorem dX9_undo_7 : decode cX9_undo 7 = .ok (.aload_n 0, 1) := by decide +kernel
theorem dX9_undo_8 : decode cX9_undo 8 = .ok (.ldc 163, 2) := by decide +kernel
theorem dX9_undo_10 : decode cX9_undo 10 = .ok (.invokevirtual 75, 3) := by decide +kernel
theorem dX9_undo_13 : decode cX9_undo 13 = .ok (.ireturn, 1) := by decide +kernel
theorem dX9_undo_14 : decode cX9_undo 14 = .ok (.iconst 0, 1) := by decide +kernel
theorem dX9_undo_15 : decode cX9_undo 15 = .ok (.istore_n 1, 1) := by decide +kernel
theorem dX9_undo_16 : decode cX9_undo 16 = .ok (.iload_n 1, 1) := by decide +kernel
theorem dX9_undo_17 : decode cX9_undo 17 = .ok (.bipush 55, 2) := by decide +kernel
theorem dX9_undo_19 : decode cX9_undo 19 = .ok (.if_icmp .ge 21, 3) := by decide +kernel
theorem dX9_undo_22 : decode cX9_undo 22 = .ok (.aload_n 0, 1) := by decide +kernel
theorem dX9_undo_23 : decode cX9_undo 23 = .ok (.getfield 7, 3) := by decide +kernel
theorem dX9_undo_26 : decode cX9_undo 26 = .ok (.iload_n 1, 1) := by decide +kernel
theorem dX9_undo_27 : decode cX9_undo 27 = .ok (.aload_n 0, 1) := by decide +kernel
theorem dX9_undo_28 : decode cX9_undo 28 = .ok (.getfield 13, 3) := by decide +kernel
theorem dX9_undo_31 : decode cX9_undo 31 = .ok (.iload_n 1, 1) := by decide +kernel
theorem dX9_undo_32 : decode cX9_undo 32 = .ok (.iaload, 1) := by decide +kernel
theorem dX9_undo_33 : decode cX9_undo 33 = .ok (.iastore, 1) := by decide +kernel
theorem dX9_undo_34 : decode cX9_undo 34 = .ok (.iinc 1 1, 3) := by decide +kernel
theorem dX9_undo_37 : decode cX9_undo 37 = .ok (.goto (-21), 3) := by decide +kernel
theorem dX9_undo_40 : decode cX9_undo 40 = .ok (.aload_n 0, 1) := by decide +kernel
theorem dX9_undo_41 : decode cX9_undo 41 = .ok (.getfield 7, 3) := by decide +kernel
theorem dX9_undo_44 : decode cX9_undo 44 = .ok (.iconst 0, 1) := by decide +kernel
theorem dX9_undo_45 : decode cX9_undo 45 = .ok (.iaload, 1) := by decide +kernel
theorem dX9_undo_46 : decode cX9_undo 46 = .ok (.ireturn, 1) := by decide +kernel
theorem dX9_tear_0 : decode cX9_tear 0 = .ok (.aload_n 0, 1) := by decide +kernel
theorem dX9_tear_1 : decode cX9_tear 1 = .ok (.getfield 315, 3) := by decide +kernel
theorem dX9_tear_4 : decode cX9_tear 4 = .ok (.ifCond .eq 7, 3) := by decide +kernel
theorem dX9_tear_7 : decode cX9_tear 7 = .ok (.iconst 1, 1) := by decide +kernel
theorem dX9_tear_8 : decode cX9_tear 8 = .ok (.goto 4, 3) := by decide +kernel
theorem dX9_tear_11 : decode cX9_tear 11 = .ok (.iconst 0, 1) := by decide +kernel
theorem dX9_tear_12 : decode cX9_tear 12 = .ok (.istore_n 1, 1) := by decide +kernel
theorem dX9_tear_13 : decode cX9_tear 13 = .ok (.aload_n 0, 1) := by decide +kernel
theorem dX9_tear_14 : decode cX9_tear 14 = .ok (.iconst 0, 1) := by decide +kernel
theorem dX9_tear_15 : decode cX9_tear 15 = .ok (.putfield 315, 3) := by decide +kernel
theorem dX9_tear_18 : decode cX9_tear 18 = .ok (.iload_n 1, 1) := by decide +kernel
theorem dX9_tear_19 : decode cX9_tear 19 = .ok (.ireturn, 1) := by decide +kernel
theorem dX9_wears_0 : decode cX9_wears 0 = .ok (.aload_n 0, 1) := by decide +kernel
theorem dX9_wears_1 : decode cX9_wears 1 = .ok (.iconst 0, 1) := by decide +kernel
theorem dX9_wears_2 : decode cX9_wears 2 = .ok (.iconst 3, 1) := by decide +kernel
theorem dX9_wears_3 : decode cX9_wears 3 = .ok (.invokevirtual 63, 3) := by decide +kernel
theorem dX9_wears_6 : decode cX9_wears 6 = .ok (.aload_n 0, 1) := by decide +kernel
theorem dX9_wears_7 : decode cX9_wears 7 = .ok (.iconst 1, 1) := by decide +kernel
theorem dX9_wears_8 : decode cX9_wears 8 = .ok (.iconst 3, 1) := by decide +kernel
theorem dX9_wears_9 : decode cX9_wears 9 = .ok (.invokevirtual 63, 3) := by decide +kernel
theorem dX9_wears_12 : decode cX9_wears 12 = .ok (.iadd, 1) := by decide +kernel
theorem dX9_wears_13 : decode cX9_wears 13 = .ok (.aload_n 0, 1) := by decide +kernel
theorem dX9_wears_14 : decode cX9_wears 14 = .ok (.iconst 2, 1) := by decide +kernel
theorem dX9_wears_15 : decode cX9_wears 15 = .ok (.iconst 3, 1) := by decide +kernel
theorem dX9_wears_16 : decode cX9_wears 16 = .ok (.invokevirtual 63, 3) := by decide +kernel
theorem dX9_wears_19 : decode cX9_wears 19 = .ok (.iadd, 1) := by decide +kernel
theorem dX9_wears_20 : decode cX9_wears 20 = .ok (.ireturn, 1) := by decide +kernel
theorem dX9_count_0 : decode cX9_count 0 = .ok (.iload_n 1, 1) := by decide +kernel
theorem dX9_count_1 : decode cX9_count 1 = .ok (.tableswitch 56 0 3 #[31, 38, 43, 51], 31) := by decide +kernel
theorem dX9_count_32 : decode cX9_count 32 = .ok (.aload_n 0, 1) := by decide +kernel
theorem dX9_count_33 : decode cX9_count 33 = .ok (.getfield 7, 3) := by decide +kernel
theorem dX9_count_36 : decode cX9_count 36 = .ok (.iconst 0, 1) := by decide +kernel
theorem dX9_count_37 : decode cX9_count 37 = .ok (.iaload, 1) := by decide +kernel
theorem dX9_count_38 : decode cX9_count 38 = .ok (.ireturn, 1) := by decide +kernel
theorem dX9_count_39 : decode cX9_count 39 = .ok (.aload_n 0, 1) := by decide +kernel
theorem dX9_count_40 : decode cX9_count 40 = .ok (.getfield 190, 3) := by decide +kernel
theorem dX9_count_43 : decode cX9_count 43 = .ok (.ireturn, 1) := by decide +kernel
theorem dX9_count_44 : decode cX9_count 44 = .ok (.aload_n 0, 1) := by decide +kernel
theorem dX9_count_45 : decode cX9_count 45 = .ok (.invokevirtual 147, 3) := by decide +kernel
theorem dX9_count_48 : decode cX9_count 48 = .ok (.invokestatic 167, 3) := by decide +kernel
theorem dX9_count_51 : decode cX9_count 51 = .ok (.ireturn, 1) := by decide +kernel
theorem dX9_count_52 : decode cX9_count 52 = .ok (.aload_n 0, 1) := by decide +kernel
theorem dX9_count_53 : decode cX9_count 53 = .ok (.invokevirtual 318, 3) := by decide +kernel
theorem dX9_count_56 : decode cX9_count 56 = .ok (.ireturn, 1) := by decide +kernel
theorem dX9_count_57 : decode cX9_count 57 = .ok (.aload_n 0, 1) := by decide +kernel
theorem dX9_count_58 : decode cX9_count 58 = .ok (.ldc 51, 2) := by decide +kernel
theorem dX9_count_60 : decode cX9_count 60 = .ok (.invokevirtual 75, 3) := by decide +kernel
theorem dX9_count_63 : decode cX9_count 63 = .ok (.ireturn, 1) := by decide +kernel
theorem dX9_status_0 : decode cX9_status 0 = .ok (.iload_n 1, 1) := by decide +kernel
theorem dX9_status_1 : decode cX9_status 1 = .ok (.i2l, 1) := by decide +kernel
theorem dX9_status_2 : decode cX9_status 2 = .ok (.ldc2_w 321, 3) := by decide +kernel
theorem dX9_status_5 : decode cX9_status 5 = .ok (.ldc2_w 323, 3) := by decide +kernel
theorem dX9_status_8 : decode cX9_status 8 = .ok (.invokestatic 54, 3) := by decide +kernel
theorem dX9_status_11 : decode cX9_status 11 = .ok (.ifCond .ne 10, 3) := by decide +kernel
theorem dX9_status_14 : decode cX9_status 14 = .ok (.aload_n 0, 1) := by decide +kernel
theorem dX9_status_15 : decode cX9_status 15 = .ok (.ldc 51, 2) := by decide +kernel
theorem dX9_status_17 : decode cX9_status 17 = .ok (.invokevirtual 75, 3) := by decide +kernel
theorem dX9_status_20 : decode cX9_status 20 = .ok (.ireturn, 1) := by decide +kernel
theorem dX9_status_21 : decode cX9_status 21 = .ok (.iconst 0, 1) := by decide +kernel
theorem dX9_status_22 : decode cX9_status 22 = .ok (.istore_n 2, 1) := by decide +kernel
theorem dX9_status_23 : decode cX9_status 23 = .ok (.iconst 0, 1) := by decide +kernel
theorem dX9_status_24 : decode cX9_status 24 = .ok (.istore_n 3, 1) := by decide +kernel
theorem dX9_status_25 : decode cX9_status 25 = .ok (.iload_n 3, 1) := by decide +kernel
theorem dX9_status_26 : decode cX9_status 26 = .ok (.bipush 7, 2) := by decide +kernel
theorem dX9_status_28 : decode cX9_status 28 = .ok (.if_icmp .ge 31, 3) := by decide +kernel
theorem dX9_status_31 : decode cX9_status 31 = .ok (.iload_n 2, 1) := by decide +kernel
theorem dX9_status_32 : decode cX9_status 32 = .ok (.iload_n 1, 1) := by decide +kernel
theorem dX9_status_33 : decode cX9_status 33 = .ok (.ifCond .lt 8, 3) := by decide +kernel
theorem dX9_status_36 : decode cX9_status 36 = .ok (.iload_n 3, 1) := by decide +kernel
theorem dX9_status_37 : decode cX9_status 37 = .ok (.iload_n 1, 1) := by decide +kernel
theorem dX9_status_38 : decode cX9_status 38 = .ok (.if_icmp .ne 12, 3) := by decide +kernel
theorem dX9_status_41 : decode cX9_status 41 = .ok (.aload_n 0, 1) := by decide +kernel
theorem dX9_status_42 : decode cX9_status 42 = .ok (.getfield 22, 3) := by decide +kernel
theorem dX9_status_45 : decode cX9_status 45 = .ok (.iload_n 3, 1) := by decide +kernel
theorem dX9_status_46 : decode cX9_status 46 = .ok (.iaload, 1) := by decide +kernel
theorem dX9_status_47 : decode cX9_status 47 = .ok (.goto 4, 3) := by decide +kernel
theorem dX9_status_50 : decode cX9_status 50 = .ok (.iconst 0, 1) := by decide +kernel
theorem dX9_status_51 : decode cX9_status 51 = .ok (.iadd, 1) := by decide +kernel
theorem dX9_status_52 : decode cX9_status 52 = .ok (.istore_n 2, 1) := by decide +kernel
theorem dX9_status_53 : decode cX9_status 53 = .ok (.iinc 3 1, 3) := by decide +kernel
theorem dX9_status_56 : decode cX9_status 56 = .ok (.goto (-31), 3) := by decide +kernel
theorem dX9_status_59 : decode cX9_status 59 = .ok (.iload_n 2, 1) := by decide +kernel
theorem dX9_status_60 : decode cX9_status 60 = .ok (.ireturn, 1) := by decide +kernel
