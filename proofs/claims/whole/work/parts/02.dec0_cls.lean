theorem dX0_init_0 : decode cX0_init 0 = .ok (.aload_n 0, 1) := by decide +kernel
theorem dX0_init_1 : decode cX0_init 1 = .ok (.invokespecial 3, 3) := by decide +kernel
theorem dX0_init_4 : decode cX0_init 4 = .ok (.aload_n 0, 1) := by decide +kernel
theorem dX0_init_5 : decode cX0_init 5 = .ok (.iconst 3, 1) := by decide +kernel
theorem dX0_init_6 : decode cX0_init 6 = .ok (.anewarray 9, 3) := by decide +kernel
theorem dX0_init_9 : decode cX0_init 9 = .ok (.putfield 11, 3) := by decide +kernel
theorem dX0_init_12 : decode cX0_init 12 = .ok (.aload_n 0, 1) := by decide +kernel
theorem dX0_init_13 : decode cX0_init 13 = .ok (.bipush 6, 2) := by decide +kernel
theorem dX0_init_15 : decode cX0_init 15 = .ok (.anewarray 17, 3) := by decide +kernel
theorem dX0_init_18 : decode cX0_init 18 = .ok (.putfield 19, 3) := by decide +kernel
theorem dX0_init_21 : decode cX0_init 21 = .ok (.aload_n 0, 1) := by decide +kernel
theorem dX0_init_22 : decode cX0_init 22 = .ok (.iconst 0, 1) := by decide +kernel
theorem dX0_init_23 : decode cX0_init 23 = .ok (.putfield 23, 3) := by decide +kernel
theorem dX0_init_26 : decode cX0_init 26 = .ok (.aload_n 0, 1) := by decide +kernel
theorem dX0_init_27 : decode cX0_init 27 = .ok (.iconst 0, 1) := by decide +kernel
theorem dX0_init_28 : decode cX0_init 28 = .ok (.putfield 27, 3) := by decide +kernel
theorem dX0_init_31 : decode cX0_init 31 = .ok (.aload_n 0, 1) := by decide +kernel
theorem dX0_init_32 : decode cX0_init 32 = .ok (.iconst 0, 1) := by decide +kernel
theorem dX0_init_33 : decode cX0_init 33 = .ok (.putfield 30, 3) := by decide +kernel
theorem dX0_init_36 : decode cX0_init 36 = .ok (.aload_n 0, 1) := by decide +kernel
theorem dX0_init_37 : decode cX0_init 37 = .ok (.iconst 0, 1) := by decide +kernel
theorem dX0_init_38 : decode cX0_init 38 = .ok (.putfield 33, 3) := by decide +kernel
theorem dX0_init_41 : decode cX0_init 41 = .ok (.iconst 0, 1) := by decide +kernel
theorem dX0_init_42 : decode cX0_init 42 = .ok (.istore_n 1, 1) := by decide +kernel
theorem dX0_init_43 : decode cX0_init 43 = .ok (.iload_n 1, 1) := by decide +kernel
theorem dX0_init_44 : decode cX0_init 44 = .ok (.iconst 3, 1) := by decide +kernel
theorem dX0_init_45 : decode cX0_init 45 = .ok (.if_icmp .ge 22, 3) := by decide +kernel
theorem dX0_init_48 : decode cX0_init 48 = .ok (.aload_n 0, 1) := by decide +kernel
theorem dX0_init_49 : decode cX0_init 49 = .ok (.getfield 11, 3) := by decide +kernel
theorem dX0_init_52 : decode cX0_init 52 = .ok (.iload_n 1, 1) := by decide +kernel
theorem dX0_init_53 : decode cX0_init 53 = .ok (.new 9, 3) := by decide +kernel
theorem dX0_init_56 : decode cX0_init 56 = .ok (.dup, 1) := by decide +kernel
theorem dX0_init_57 : decode cX0_init 57 = .ok (.invokespecial 36, 3) := by decide +kernel
theorem dX0_init_60 : decode cX0_init 60 = .ok (.aastore, 1) := by decide +kernel
theorem dX0_init_61 : decode cX0_init 61 = .ok (.iinc 1 1, 3) := by decide +kernel
theorem dX0_init_64 : decode cX0_init 64 = .ok (.goto (-21), 3) := by decide +kernel
theorem dX0_init_67 : decode cX0_init 67 = .ok (.iconst 0, 1) := by decide +kernel
theorem dX0_init_68 : decode cX0_init 68 = .ok (.istore_n 1, 1) := by decide +kernel
theorem dX0_init_69 : decode cX0_init 69 = .ok (.iload_n 1, 1) := by decide +kernel
theorem dX0_init_70 : decode cX0_init 70 = .ok (.bipush 6, 2) := by decide +kernel
theorem dX0_init_72 : decode cX0_init 72 = .ok (.if_icmp .ge 22, 3) := by decide +kernel
theorem dX0_init_75 : decode cX0_init 75 = .ok (.aload_n 0, 1) := by decide +kernel
theorem dX0_init_76 : decode cX0_init 76 = .ok (.getfield 19, 3) := by decide +kernel
theorem dX0_init_79 : decode cX0_init 79 = .ok (.iload_n 1, 1) := by decide +kernel
theorem dX0_init_80 : decode cX0_init 80 = .ok (.new 17, 3) := by decide +kernel
theorem dX0_init_83 : decode cX0_init 83 = .ok (.dup, 1) := by decide +kernel
theorem dX0_init_84 : decode cX0_init 84 = .ok (.invokespecial 37, 3) := by decide +kernel
theorem dX0_init_87 : decode cX0_init 87 = .ok (.aastore, 1) := by decide +kernel
theorem dX0_init_88 : decode cX0_init 88 = .ok (.iinc 1 1, 3) := by decide +kernel
theorem dX0_init_91 : decode cX0_init 91 = .ok (.goto (-22), 3) := by decide +kernel
theorem dX0_init_94 : decode cX0_init 94 = .ok (.return_, 1) := by decide +kernel
theorem dX0_become_0 : decode cX0_become 0 = .ok (.iconst 0, 1) := by decide +kernel
theorem dX0_become_1 : decode cX0_become 1 = .ok (.istore_n 2, 1) := by decide +kernel
theorem dX0_become_2 : decode cX0_become 2 = .ok (.iload_n 2, 1) := by decide +kernel
theorem dX0_become_3 : decode cX0_become 3 = .ok (.iconst 3, 1) := by decide +kernel
theorem dX0_become_4 : decode cX0_become 4 = .ok (.if_icmp .ge 24, 3) := by decide +kernel
theorem dX0_become_7 : decode cX0_become 7 = .ok (.aload_n 0, 1) := by decide +kernel
theorem dX0_become_8 : decode cX0_become 8 = .ok (.getfield 11, 3) := by decide +kernel
theorem dX0_become_11 : decode cX0_become 11 = .ok (.iload_n 2, 1) := by decide +kernel
theorem dX0_become_12 : decode cX0_become 12 = .ok (.aaload, 1) := by decide +kernel
theorem dX0_become_13 : decode cX0_become 13 = .ok (.aload_n 1, 1) := by decide +kernel
theorem dX0_become_14 : decode cX0_become 14 = .ok (.getfield 11, 3) := by decide +kernel
theorem dX0_become_17 : decode cX0_become 17 = .ok (.iload_n 2, 1) := by decide +kernel
theorem dX0_become_18 : decode cX0_become 18 = .ok (.aaload, 1) := by decide +kernel
theorem dX0_become_19 : decode cX0_become 19 = .ok (.invokevirtual 38, 3) := by decide +kernel
theorem dX0_become_22 : decode cX0_become 22 = .ok (.iinc 2 1, 3) := by decide +kernel
theorem dX0_become_25 : decode cX0_become 25 = .ok (.goto (-23), 3) := by decide +kernel
theorem dX0_become_28 : decode cX0_become 28 = .ok (.iconst 0, 1) := by decide +kernel
theorem dX0_become_29 : decode cX0_become 29 = .ok (.istore_n 2, 1) := by decide +kernel
theorem dX0_become_30 : decode cX0_become 30 = .ok (.iload_n 2, 1) := by decide +kernel
theorem dX0_become_31 : decode cX0_become 31 = .ok (.aload_n 1, 1) := by decide +kernel
theorem dX0_become_32 : decode cX0_become 32 = .ok (.getfield 23, 3) := by decide +kernel
theorem dX0_become_35 : decode cX0_become 35 = .ok (.if_icmp .ge 24, 3) := by decide +kernel
theorem dX0_become_38 : decode cX0_become 38 = .ok (.aload_n 0, 1) := by decide +kernel
theorem dX0_become_39 : decode cX0_become 39 = .ok (.getfield 19, 3) := by decide +kernel
theorem dX0_become_42 : decode cX0_become 42 = .ok (.iload_n 2, 1) := by decide +kernel
theorem dX0_become_43 : decode cX0_become 43 = .ok (.aaload, 1) := by decide +kernel
theorem dX0_become_44 : decode cX0_become 44 = .ok (.aload_n 1, 1) := by decide +kernel
theorem dX0_become_45 : decode cX0_become 45 = .ok (.getfield 19, 3) := by decide +kernel
theorem dX0_become_48 : decode cX0_become 48 = .ok (.iload_n 2, 1) := by decide +kernel
theorem dX0_become_49 : decode cX0_become 49 = .ok (.aaload, 1) := by decide +kernel
theorem dX0_become_50 : decode cX0_become 50 = .ok (.invokevirtual 42, 3) := by decide +kernel
theorem dX0_become_53 : decode cX0_become 53 = .ok (.iinc 2 1, 3) := by decide +kernel
theorem dX0_become_56 : decode cX0_become 56 = .ok (.goto (-26), 3) := by decide +kernel
theorem dX0_become_59 : decode cX0_become 59 = .ok (.aload_n 0, 1) := by decide +kernel
theorem dX0_become_60 : decode cX0_become 60 = .ok (.aload_n 1, 1) := by decide +kernel
theorem dX0_become_61 : decode cX0_become 61 = .ok (.getfield 23, 3) := by decide +kernel
theorem dX0_become_64 : decode cX0_become 64 = .ok (.putfield 23, 3) := by decide +kernel
theorem dX0_become_67 : decode cX0_become 67 = .ok (.aload_n 0, 1) := by decide +kernel
theorem dX0_become_68 : decode cX0_become 68 = .ok (.aload_n 1, 1) := by decide +kernel
theorem dX0_become_69 : decode cX0_become 69 = .ok (.getfield 27, 3) := by decide +kernel
theorem dX0_become_72 : decode cX0_become 72 = .ok (.putfield 27, 3) := by decide +kernel
theorem dX0_become_75 : decode cX0_become 75 = .ok (.aload_n 0, 1) := by decide +kernel
theorem dX0_become_76 : decode cX0_become 76 = .ok (.aload_n 1, 1) := by decide +kernel
theorem dX0_become_77 : decode cX0_become 77 = .ok (.getfield 30, 3) := by decide +kernel
theorem dX0_become_80 : decode cX0_become 80 = .ok (.putfield 30, 3) := by decide +kernel
theorem dX0_become_83 : decode cX0_become 83 = .ok (.aload_n 0, 1) := by decide +kernel
theorem dX0_become_84 : decode cX0_become 84 = .ok (.aload_n 1, 1) := by decide +kernel
theorem dX0_become_85 : decode cX0_become 85 = .ok (.getfield 33, 3) := by decide +kernel
theorem dX0_become_88 : decode cX0_become 88 = .ok (.putfield 33, 3) := by decide +kernel
theorem dX0_become_91 : decode cX0_become 91 = .ok (.return_, 1) := by decide +kernel
theorem dX0_has_0 : decode cX0_has 0 = .ok (.iload_n 1, 1) := by decide +kernel
theorem dX0_has_1 : decode cX0_has 1 = .ok (.ifCond .lt 15, 3) := by decide +kernel
theorem dX0_has_4 : decode cX0_has 4 = .ok (.iload_n 1, 1) := by decide +kernel
theorem dX0_has_5 : decode cX0_has 5 = .ok (.aload_n 0, 1) := by decide +kernel
theorem dX0_has_6 : decode cX0_has 6 = .ok (.getfield 23, 3) := by decide +kernel
theorem dX0_has_9 : decode cX0_has 9 = .ok (.if_icmp .ge 7, 3) := by decide +kernel
theorem dX0_has_12 : decode cX0_has 12 = .ok (.iconst 1, 1) := by decide +kernel
theorem dX0_has_13 : decode cX0_has 13 = .ok (.goto 4, 3) := by decide +kernel
theorem dX0_has_16 : decode cX0_has 16 = .ok (.iconst 0, 1) := by decide +kernel
theorem dX0_has_17 : decode cX0_has 17 = .ok (.ireturn, 1) := by decide +kernel
theorem dX0_hasSet_0 : decode cX0_hasSet 0 = .ok (.iload_n 1, 1) := by decide +kernel
theorem dX0_hasSet_1 : decode cX0_hasSet 1 = .ok (.ifCond .lt 17, 3) := by decide +kernel
theorem dX0_hasSet_4 : decode cX0_hasSet 4 = .ok (.iload_n 1, 1) := by decide +kernel
theorem dX0_hasSet_5 : decode cX0_hasSet 5 = .ok (.iconst 1, 1) := by decide +kernel
theorem dX0_hasSet_6 : decode cX0_hasSet 6 = .ok (.aload_n 0, 1) := by decide +kernel
theorem dX0_hasSet_7 : decode cX0_hasSet 7 = .ok (.getfield 23, 3) := by decide +kernel
theorem dX0_hasSet_10 : decode cX0_hasSet 10 = .ok (.ishl, 1) := by decide +kernel
theorem dX0_hasSet_11 : decode cX0_hasSet 11 = .ok (.if_icmp .ge 7, 3) := by decide +kernel
theorem dX0_hasSet_14 : decode cX0_hasSet 14 = .ok (.iconst 1, 1) := by decide +kernel
theorem dX0_hasSet_15 : decode cX0_hasSet 15 = .ok (.goto 4, 3) := by decide +kernel
theorem dX0_hasSet_18 : decode cX0_hasSet 18 = .ok (.iconst 0, 1) := by decide +kernel
theorem dX0_hasSet_19 : decode cX0_hasSet 19 = .ok (.ireturn, 1) := by decide +kernel
theorem dX0_isFull_0 : decode cX0_isFull 0 = .ok (.aload_n 0, 1) := by decide +kernel
theorem dX0_isFull_1 : decode cX0_isFull 1 = .ok (.getfield 23, 3) := by decide +kernel
theorem dX0_isFull_4 : decode cX0_isFull 4 = .ok (.bipush 6, 2) := by decide +kernel
theorem dX0_isFull_6 : decode cX0_isFull 6 = .ok (.if_icmp .lt 7, 3) := by decide +kernel
theorem dX0_isFull_9 : decode cX0_isFull 9 = .ok (.iconst 1, 1) := by decide +kernel
theorem dX0_isFull_10 : decode cX0_isFull 10 = .ok (.goto 4, 3) := by decide +kernel
theorem dX0_isFull_13 : decode cX0_isFull 13 = .ok (.iconst 0, 1) := by decide +kernel
theorem dX0_isFull_14 : decode cX0_isFull 14 = .ok (.ireturn, 1) := by decide +kernel
theorem dX0_add_0 : decode cX0_add 0 = .ok (.aload_n 0, 1) := by decide +kernel
theorem dX0_add_1 : decode cX0_add 1 = .ok (.getfield 19, 3) := by decide +kernel
theorem dX0_add_4 : decode cX0_add 4 = .ok (.aload_n 0, 1) := by decide +kernel
theorem dX0_add_5 : decode cX0_add 5 = .ok (.getfield 23, 3) := by decide +kernel
theorem dX0_add_8 : decode cX0_add 8 = .ok (.aaload, 1) := by decide +kernel
theorem dX0_add_9 : decode cX0_add 9 = .ok (.iload_n 1, 1) := by decide +kernel
theorem dX0_add_10 : decode cX0_add 10 = .ok (.invokevirtual 45, 3) := by decide +kernel
theorem dX0_add_13 : decode cX0_add 13 = .ok (.aload_n 0, 1) := by decide +kernel
theorem dX0_add_14 : decode cX0_add 14 = .ok (.dup, 1) := by decide +kernel
theorem dX0_add_15 : decode cX0_add 15 = .ok (.getfield 23, 3) := by decide +kernel
theorem dX0_add_18 : decode cX0_add 18 = .ok (.iconst 1, 1) := by decide +kernel
theorem dX0_add_19 : decode cX0_add 19 = .ok (.iadd, 1) := by decide +kernel
theorem dX0_add_20 : decode cX0_add 20 = .ok (.putfield 23, 3) := by decide +kernel
theorem dX0_add_23 : decode cX0_add 23 = .ok (.aload_n 0, 1) := by decide +kernel
theorem dX0_add_24 : decode cX0_add 24 = .ok (.getfield 23, 3) := by decide +kernel
theorem dX0_add_27 : decode cX0_add 27 = .ok (.iconst 1, 1) := by decide +kernel
theorem dX0_add_28 : decode cX0_add 28 = .ok (.isub, 1) := by decide +kernel
theorem dX0_add_29 : decode cX0_add 29 = .ok (.ireturn, 1) := by decide +kernel
theorem dX0_secondsFor_0 : decode cX0_secondsFor 0 = .ok (.aload_n 0, 1) := by decide +kernel
theorem dX0_secondsFor_1 : decode cX0_secondsFor 1 = .ok (.aload_n 0, 1) := by decide +kernel
theorem dX0_secondsFor_2 : decode cX0_secondsFor 2 = .ok (.getfield 19, 3) := by decide +kernel
theorem dX0_secondsFor_5 : decode cX0_secondsFor 5 = .ok (.iload_n 1, 1) := by decide +kernel
theorem dX0_secondsFor_6 : decode cX0_secondsFor 6 = .ok (.aaload, 1) := by decide +kernel
theorem dX0_secondsFor_7 : decode cX0_secondsFor 7 = .ok (.getfield 49, 3) := by decide +kernel
theorem dX0_secondsFor_10 : decode cX0_secondsFor 10 = .ok (.iload_n 1, 1) := by decide +kernel
theorem dX0_secondsFor_11 : decode cX0_secondsFor 11 = .ok (.iload_n 2, 1) := by decide +kernel
theorem dX0_secondsFor_12 : decode cX0_secondsFor 12 = .ok (.invokevirtual 52, 3) := by decide +kernel
theorem dX0_secondsFor_15 : decode cX0_secondsFor 15 = .ok (.ireturn, 1) := by decide +kernel
theorem dX0_secondsAs_0 : decode cX0_secondsAs 0 = .ok (.aload_n 0, 1) := by decide +kernel
theorem dX0_secondsAs_1 : decode cX0_secondsAs 1 = .ok (.getfield 11, 3) := by decide +kernel
theorem dX0_secondsAs_4 : decode cX0_secondsAs 4 = .ok (.iload_n 3, 1) := by decide +kernel
theorem dX0_secondsAs_5 : decode cX0_secondsAs 5 = .ok (.aaload, 1) := by decide +kernel
theorem dX0_secondsAs_6 : decode cX0_secondsAs 6 = .ok (.astore 4, 2) := by decide +kernel
theorem dX0_secondsAs_8 : decode cX0_secondsAs 8 = .ok (.aload_n 0, 1) := by decide +kernel
theorem dX0_secondsAs_9 : decode cX0_secondsAs 9 = .ok (.getfield 19, 3) := by decide +kernel
theorem dX0_secondsAs_12 : decode cX0_secondsAs 12 = .ok (.iload_n 2, 1) := by decide +kernel
theorem dX0_secondsAs_13 : decode cX0_secondsAs 13 = .ok (.aaload, 1) := by decide +kernel
theorem dX0_secondsAs_14 : decode cX0_secondsAs 14 = .ok (.astore 5, 2) := by decide +kernel
theorem dX0_secondsAs_16 : decode cX0_secondsAs 16 = .ok (.iload_n 1, 1) := by decide +kernel
theorem dX0_secondsAs_17 : decode cX0_secondsAs 17 = .ok (.aload 5, 2) := by decide +kernel
theorem dX0_secondsAs_19 : decode cX0_secondsAs 19 = .ok (.aload 4, 2) := by decide +kernel
theorem dX0_secondsAs_21 : decode cX0_secondsAs 21 = .ok (.invokestatic 56, 3) := by decide +kernel
theorem dX0_secondsAs_24 : decode cX0_secondsAs 24 = .ok (.iconst 5, 1) := by decide +kernel
theorem dX0_secondsAs_25 : decode cX0_secondsAs 25 = .ok (.aload 4, 2) := by decide +kernel
theorem dX0_secondsAs_27 : decode cX0_secondsAs 27 = .ok (.getfield 62, 3) := by decide +kernel
theorem dX0_secondsAs_30 : decode cX0_secondsAs 30 = .ok (.imul, 1) := by decide +kernel
theorem dX0_secondsAs_31 : decode cX0_secondsAs 31 = .ok (.iadd, 1) := by decide +kernel
theorem dX0_secondsAs_32 : decode cX0_secondsAs 32 = .ok (.iconst 2, 1) := by decide +kernel
theorem dX0_secondsAs_33 : decode cX0_secondsAs 33 = .ok (.aload 4, 2) := by decide +kernel
theorem dX0_secondsAs_35 : decode cX0_secondsAs 35 = .ok (.getfield 65, 3) := by decide +kernel
theorem dX0_secondsAs_38 : decode cX0_secondsAs 38 = .ok (.imul, 1) := by decide +kernel
theorem dX0_secondsAs_39 : decode cX0_secondsAs 39 = .ok (.iadd, 1) := by decide +kernel
theorem dX0_secondsAs_40 : decode cX0_secondsAs 40 = .ok (.iconst 4, 1) := by decide +kernel
theorem dX0_secondsAs_41 : decode cX0_secondsAs 41 = .ok (.aload 5, 2) := by decide +kernel
theorem dX0_secondsAs_43 : decode cX0_secondsAs 43 = .ok (.getfield 68, 3) := by decide +kernel
theorem dX0_secondsAs_46 : decode cX0_secondsAs 46 = .ok (.imul, 1) := by decide +kernel
theorem dX0_secondsAs_47 : decode cX0_secondsAs 47 = .ok (.iadd, 1) := by decide +kernel
theorem dX0_secondsAs_48 : decode cX0_secondsAs 48 = .ok (.aload_n 0, 1) := by decide +kernel
theorem dX0_secondsAs_49 : decode cX0_secondsAs 49 = .ok (.getfield 27, 3) := by decide +kernel
theorem dX0_secondsAs_52 : decode cX0_secondsAs 52 = .ok (.iadd, 1) := by decide +kernel
theorem dX0_secondsAs_53 : decode cX0_secondsAs 53 = .ok (.iload_n 3, 1) := by decide +kernel
theorem dX0_secondsAs_54 : decode cX0_secondsAs 54 = .ok (.iconst 1, 1) := by decide +kernel
theorem dX0_secondsAs_55 : decode cX0_secondsAs 55 = .ok (.if_icmp .ne 8, 3) := by decide +kernel
theorem dX0_secondsAs_58 : decode cX0_secondsAs 58 = .ok (.bipush 8, 2) := by decide +kernel
theorem dX0_secondsAs_60 : decode cX0_secondsAs 60 = .ok (.goto 4, 3) := by decide +kernel
theorem dX0_secondsAs_63 : decode cX0_secondsAs 63 = .ok (.iconst 3, 1) := by decide +kernel
theorem dX0_secondsAs_64 : decode cX0_secondsAs 64 = .ok (.aload_n 0, 1) := by decide +kernel
theorem dX0_secondsAs_65 : decode cX0_secondsAs 65 = .ok (.iload_n 3, 1) := by decide +kernel
theorem dX0_secondsAs_66 : decode cX0_secondsAs 66 = .ok (.invokevirtual 71, 3) := by decide +kernel
theorem dX0_secondsAs_69 : decode cX0_secondsAs 69 = .ok (.imul, 1) := by decide +kernel
theorem dX0_secondsAs_70 : decode cX0_secondsAs 70 = .ok (.iadd, 1) := by decide +kernel
theorem dX0_secondsAs_71 : decode cX0_secondsAs 71 = .ok (.ireturn, 1) := by decide +kernel
theorem dX0_takenBeside_0 : decode cX0_takenBeside 0 = .ok (.iconst 0, 1) := by decide +kernel
theorem dX0_takenBeside_1 : decode cX0_takenBeside 1 = .ok (.istore_n 2, 1) := by decide +kernel
theorem dX0_takenBeside_2 : decode cX0_takenBeside 2 = .ok (.iconst 0, 1) := by decide +kernel
theorem dX0_takenBeside_3 : decode cX0_takenBeside 3 = .ok (.istore_n 3, 1) := by decide +kernel
theorem dX0_takenBeside_4 : decode cX0_takenBeside 4 = .ok (.iload_n 3, 1) := by decide +kernel
theorem dX0_takenBeside_5 : decode cX0_takenBeside 5 = .ok (.iconst 3, 1) := by decide +kernel
theorem dX0_takenBeside_6 : decode cX0_takenBeside 6 = .ok (.if_icmp .ge 51, 3) := by decide +kernel
theorem dX0_takenBeside_9 : decode cX0_takenBeside 9 = .ok (.iload_n 3, 1) := by decide +kernel
theorem dX0_takenBeside_10 : decode cX0_takenBeside 10 = .ok (.iload_n 1, 1) := by decide +kernel
theorem dX0_takenBeside_11 : decode cX0_takenBeside 11 = .ok (.iconst 1, 1) := by decide +kernel
theorem dX0_takenBeside_12 : decode cX0_takenBeside 12 = .ok (.isub, 1) := by decide +kernel
theorem dX0_takenBeside_13 : decode cX0_takenBeside 13 = .ok (.if_icmp .eq 10, 3) := by decide +kernel
theorem dX0_takenBeside_16 : decode cX0_takenBeside 16 = .ok (.iload_n 3, 1) := by decide +kernel
theorem dX0_takenBeside_17 : decode cX0_takenBeside 17 = .ok (.iload_n 1, 1) := by decide +kernel
theorem dX0_takenBeside_18 : decode cX0_takenBeside 18 = .ok (.iconst 1, 1) := by decide +kernel
theorem dX0_takenBeside_19 : decode cX0_takenBeside 19 = .ok (.iadd, 1) := by decide +kernel
theorem dX0_takenBeside_20 : decode cX0_takenBeside 20 = .ok (.if_icmp .ne 7, 3) := by decide +kernel
theorem dX0_takenBeside_23 : decode cX0_takenBeside 23 = .ok (.iconst 1, 1) := by decide +kernel
theorem dX0_takenBeside_24 : decode cX0_takenBeside 24 = .ok (.goto 4, 3) := by decide +kernel
theorem dX0_takenBeside_27 : decode cX0_takenBeside 27 = .ok (.iconst 0, 1) := by decide +kernel
theorem dX0_takenBeside_28 : decode cX0_takenBeside 28 = .ok (.istore 4, 2) := by decide +kernel
theorem dX0_takenBeside_30 : decode cX0_takenBeside 30 = .ok (.iload 4, 2) := by decide +kernel
theorem dX0_takenBeside_32 : decode cX0_takenBeside 32 = .ok (.ifCond .eq 19, 3) := by decide +kernel
theorem dX0_takenBeside_35 : decode cX0_takenBeside 35 = .ok (.aload_n 0, 1) := by decide +kernel
theorem dX0_takenBeside_36 : decode cX0_takenBeside 36 = .ok (.getfield 11, 3) := by decide +kernel
theorem dX0_takenBeside_39 : decode cX0_takenBeside 39 = .ok (.iload_n 3, 1) := by decide +kernel
theorem dX0_takenBeside_40 : decode cX0_takenBeside 40 = .ok (.aaload, 1) := by decide +kernel
theorem dX0_takenBeside_41 : decode cX0_takenBeside 41 = .ok (.getfield 75, 3) := by decide +kernel
theorem dX0_takenBeside_44 : decode cX0_takenBeside 44 = .ok (.iconst (-1), 1) := by decide +kernel
theorem dX0_takenBeside_45 : decode cX0_takenBeside 45 = .ok (.if_icmp .eq 6, 3) := by decide +kernel
theorem dX0_takenBeside_48 : decode cX0_takenBeside 48 = .ok (.iinc 2 1, 3) := by decide +kernel
theorem dX0_takenBeside_51 : decode cX0_takenBeside 51 = .ok (.iinc 3 1, 3) := by decide +kernel
theorem dX0_takenBeside_54 : decode cX0_takenBeside 54 = .ok (.goto (-50), 3) := by decide +kernel
theorem dX0_takenBeside_57 : decode cX0_takenBeside 57 = .ok (.iload_n 2, 1) := by decide +kernel
theorem dX0_takenBeside_58 : decode cX0_takenBeside 58 = .ok (.ireturn, 1) := by decide +kernel
theorem dX0_snugFor_0 : decode cX0_snugFor 0 = .ok (.aload_n 0, 1) := by decide +kernel
theorem dX0_snugFor_1 : decode cX0_snugFor 1 = .ok (.getfield 19, 3) := by decide +kernel
theorem dX0_snugFor_4 : decode cX0_snugFor 4 = .ok (.iload_n 1, 1) := by decide +kernel
theorem dX0_snugFor_5 : decode cX0_snugFor 5 = .ok (.aaload, 1) := by decide +kernel
theorem dX0_snugFor_6 : decode cX0_snugFor 6 = .ok (.astore_n 3, 1) := by decide +kernel
theorem dX0_snugFor_7 : decode cX0_snugFor 7 = .ok (.iconst 0, 1) := by decide +kernel
theorem dX0_snugFor_8 : decode cX0_snugFor 8 = .ok (.aload_n 3, 1) := by decide +kernel
theorem dX0_snugFor_9 : decode cX0_snugFor 9 = .ok (.getfield 49, 3) := by decide +kernel
theorem dX0_snugFor_12 : decode cX0_snugFor 12 = .ok (.aload_n 3, 1) := by decide +kernel
theorem dX0_snugFor_13 : decode cX0_snugFor 13 = .ok (.aload_n 0, 1) := by decide +kernel
theorem dX0_snugFor_14 : decode cX0_snugFor 14 = .ok (.getfield 11, 3) := by decide +kernel
theorem dX0_snugFor_17 : decode cX0_snugFor 17 = .ok (.iload_n 2, 1) := by decide +kernel
theorem dX0_snugFor_18 : decode cX0_snugFor 18 = .ok (.aaload, 1) := by decide +kernel
theorem dX0_snugFor_19 : decode cX0_snugFor 19 = .ok (.invokestatic 78, 3) := by decide +kernel
theorem dX0_snugFor_22 : decode cX0_snugFor 22 = .ok (.iconst 3, 1) := by decide +kernel
theorem dX0_snugFor_23 : decode cX0_snugFor 23 = .ok (.aload_n 3, 1) := by decide +kernel
theorem dX0_snugFor_24 : decode cX0_snugFor 24 = .ok (.getfield 68, 3) := by decide +kernel
theorem dX0_snugFor_27 : decode cX0_snugFor 27 = .ok (.imul, 1) := by decide +kernel
theorem dX0_snugFor_28 : decode cX0_snugFor 28 = .ok (.isub, 1) := by decide +kernel
theorem dX0_snugFor_29 : decode cX0_snugFor 29 = .ok (.invokestatic 81, 3) := by decide +kernel
theorem dX0_snugFor_32 : decode cX0_snugFor 32 = .ok (.ireturn, 1) := by decide +kernel
theorem dX0_fretsNow_0 : decode cX0_fretsNow 0 = .ok (.aload_n 1, 1) := by decide +kernel
theorem dX0_fretsNow_1 : decode cX0_fretsNow 1 = .ok (.invokevirtual 87, 3) := by decide +kernel
theorem dX0_fretsNow_4 : decode cX0_fretsNow 4 = .ok (.ifCond .eq 14, 3) := by decide +kernel
theorem dX0_fretsNow_7 : decode cX0_fretsNow 7 = .ok (.aload_n 0, 1) := by decide +kernel
theorem dX0_fretsNow_8 : decode cX0_fretsNow 8 = .ok (.aload_n 1, 1) := by decide +kernel
theorem dX0_fretsNow_9 : decode cX0_fretsNow 9 = .ok (.getfield 91, 3) := by decide +kernel
theorem dX0_fretsNow_12 : decode cX0_fretsNow 12 = .ok (.invokevirtual 71, 3) := by decide +kernel
theorem dX0_fretsNow_15 : decode cX0_fretsNow 15 = .ok (.ifCond .ne 7, 3) := by decide +kernel
theorem dX0_fretsNow_18 : decode cX0_fretsNow 18 = .ok (.iconst 1, 1) := by decide +kernel
theorem dX0_fretsNow_19 : decode cX0_fretsNow 19 = .ok (.goto 4, 3) := by decide +kernel
theorem dX0_fretsNow_22 : decode cX0_fretsNow 22 = .ok (.iconst 0, 1) := by decide +kernel
theorem dX0_fretsNow_23 : decode cX0_fretsNow 23 = .ok (.istore_n 2, 1) := by decide +kernel
theorem dX0_fretsNow_24 : decode cX0_fretsNow 24 = .ok (.aload_n 1, 1) := by decide +kernel
theorem dX0_fretsNow_25 : decode cX0_fretsNow 25 = .ok (.getfield 49, 3) := by decide +kernel
theorem dX0_fretsNow_28 : decode cX0_fretsNow 28 = .ok (.aload_n 0, 1) := by decide +kernel
theorem dX0_fretsNow_29 : decode cX0_fretsNow 29 = .ok (.getfield 30, 3) := by decide +kernel
theorem dX0_fretsNow_32 : decode cX0_fretsNow 32 = .ok (.aload_n 1, 1) := by decide +kernel
theorem dX0_fretsNow_33 : decode cX0_fretsNow 33 = .ok (.getfield 94, 3) := by decide +kernel
theorem dX0_fretsNow_36 : decode cX0_fretsNow 36 = .ok (.iload_n 2, 1) := by decide +kernel
theorem dX0_fretsNow_37 : decode cX0_fretsNow 37 = .ok (.invokestatic 97, 3) := by decide +kernel
theorem dX0_fretsNow_40 : decode cX0_fretsNow 40 = .ok (.ireturn, 1) := by decide +kernel
theorem dX0_clickIn_0 : decode cX0_clickIn 0 = .ok (.aload_n 0, 1) := by decide +kernel
theorem dX0_clickIn_1 : decode cX0_clickIn 1 = .ok (.getfield 19, 3) := by decide +kernel
theorem dX0_clickIn_4 : decode cX0_clickIn 4 = .ok (.iload_n 1, 1) := by decide +kernel
theorem dX0_clickIn_5 : decode cX0_clickIn 5 = .ok (.aaload, 1) := by decide +kernel
theorem dX0_clickIn_6 : decode cX0_clickIn 6 = .ok (.astore_n 3, 1) := by decide +kernel
theorem dX0_clickIn_7 : decode cX0_clickIn 7 = .ok (.aload_n 0, 1) := by decide +kernel
theorem dX0_clickIn_8 : decode cX0_clickIn 8 = .ok (.getfield 11, 3) := by decide +kernel
theorem dX0_clickIn_11 : decode cX0_clickIn 11 = .ok (.iload_n 2, 1) := by decide +kernel
theorem dX0_clickIn_12 : decode cX0_clickIn 12 = .ok (.aaload, 1) := by decide +kernel
theorem dX0_clickIn_13 : decode cX0_clickIn 13 = .ok (.astore 4, 2) := by decide +kernel
theorem dX0_clickIn_15 : decode cX0_clickIn 15 = .ok (.aload_n 0, 1) := by decide +kernel
theorem dX0_clickIn_16 : decode cX0_clickIn 16 = .ok (.ldc 101, 2) := by decide +kernel
theorem dX0_clickIn_18 : decode cX0_clickIn 18 = .ok (.aload_n 0, 1) := by decide +kernel
theorem dX0_clickIn_19 : decode cX0_clickIn 19 = .ok (.getfield 33, 3) := by decide +kernel
theorem dX0_clickIn_22 : decode cX0_clickIn 22 = .ok (.aload_n 0, 1) := by decide +kernel
theorem dX0_clickIn_23 : decode cX0_clickIn 23 = .ok (.aload_n 3, 1) := by decide +kernel
theorem dX0_clickIn_24 : decode cX0_clickIn 24 = .ok (.getfield 49, 3) := by decide +kernel
theorem dX0_clickIn_27 : decode cX0_clickIn 27 = .ok (.iload_n 1, 1) := by decide +kernel
theorem dX0_clickIn_28 : decode cX0_clickIn 28 = .ok (.iload_n 2, 1) := by decide +kernel
theorem dX0_clickIn_29 : decode cX0_clickIn 29 = .ok (.invokevirtual 52, 3) := by decide +kernel
theorem dX0_clickIn_32 : decode cX0_clickIn 32 = .ok (.iadd, 1) := by decide +kernel
theorem dX0_clickIn_33 : decode cX0_clickIn 33 = .ok (.invokestatic 102, 3) := by decide +kernel
theorem dX0_clickIn_36 : decode cX0_clickIn 36 = .ok (.putfield 33, 3) := by decide +kernel
theorem dX0_clickIn_39 : decode cX0_clickIn 39 = .ok (.aload_n 3, 1) := by decide +kernel
theorem dX0_clickIn_40 : decode cX0_clickIn 40 = .ok (.aload_n 0, 1) := by decide +kernel
theorem dX0_clickIn_41 : decode cX0_clickIn 41 = .ok (.iload_n 1, 1) := by decide +kernel
theorem dX0_clickIn_42 : decode cX0_clickIn 42 = .ok (.iload_n 2, 1) := by decide +kernel
theorem dX0_clickIn_43 : decode cX0_clickIn 43 = .ok (.invokevirtual 105, 3) := by decide +kernel
theorem dX0_clickIn_46 : decode cX0_clickIn 46 = .ok (.putfield 94, 3) := by decide +kernel
theorem dX0_clickIn_49 : decode cX0_clickIn 49 = .ok (.aload_n 3, 1) := by decide +kernel
theorem dX0_clickIn_50 : decode cX0_clickIn 50 = .ok (.iload_n 2, 1) := by decide +kernel
theorem dX0_clickIn_51 : decode cX0_clickIn 51 = .ok (.putfield 91, 3) := by decide +kernel
theorem dX0_clickIn_54 : decode cX0_clickIn 54 = .ok (.aload 4, 2) := by decide +kernel
theorem dX0_clickIn_56 : decode cX0_clickIn 56 = .ok (.iload_n 1, 1) := by decide +kernel
theorem dX0_clickIn_57 : decode cX0_clickIn 57 = .ok (.putfield 75, 3) := by decide +kernel
theorem dX0_clickIn_60 : decode cX0_clickIn 60 = .ok (.aload 4, 2) := by decide +kernel
theorem dX0_clickIn_62 : decode cX0_clickIn 62 = .ok (.sipush 9999, 3) := by decide +kernel
theorem dX0_clickIn_65 : decode cX0_clickIn 65 = .ok (.aload 4, 2) := by decide +kernel
theorem dX0_clickIn_67 : decode cX0_clickIn 67 = .ok (.getfield 108, 3) := by decide +kernel
theorem dX0_clickIn_70 : decode cX0_clickIn 70 = .ok (.iconst 1, 1) := by decide +kernel
theorem dX0_clickIn_71 : decode cX0_clickIn 71 = .ok (.iadd, 1) := by decide +kernel
theorem dX0_clickIn_72 : decode cX0_clickIn 72 = .ok (.invokestatic 102, 3) := by decide +kernel
theorem dX0_clickIn_75 : decode cX0_clickIn 75 = .ok (.putfield 108, 3) := by decide +kernel
theorem dX0_clickIn_78 : decode cX0_clickIn 78 = .ok (.aload_n 3, 1) := by decide +kernel
theorem dX0_clickIn_79 : decode cX0_clickIn 79 = .ok (.getfield 49, 3) := by decide +kernel
theorem dX0_clickIn_82 : decode cX0_clickIn 82 = .ok (.iconst 1, 1) := by decide +kernel
theorem dX0_clickIn_83 : decode cX0_clickIn 83 = .ok (.invokestatic 111, 3) := by decide +kernel
theorem dX0_clickIn_86 : decode cX0_clickIn 86 = .ok (.ifCond .eq 18, 3) := by decide +kernel
theorem dX0_clickIn_89 : decode cX0_clickIn 89 = .ok (.aload_n 3, 1) := by decide +kernel
theorem dX0_clickIn_90 : decode cX0_clickIn 90 = .ok (.bipush 9, 2) := by decide +kernel
theorem dX0_clickIn_92 : decode cX0_clickIn 92 = .ok (.aload_n 3, 1) := by decide +kernel
theorem dX0_clickIn_93 : decode cX0_clickIn 93 = .ok (.getfield 115, 3) := by decide +kernel
theorem dX0_clickIn_96 : decode cX0_clickIn 96 = .ok (.iconst 1, 1) := by decide +kernel
theorem dX0_clickIn_97 : decode cX0_clickIn 97 = .ok (.iadd, 1) := by decide +kernel
theorem dX0_clickIn_98 : decode cX0_clickIn 98 = .ok (.invokestatic 102, 3) := by decide +kernel
theorem dX0_clickIn_101 : decode cX0_clickIn 101 = .ok (.putfield 115, 3) := by decide +kernel
theorem dX0_clickIn_104 : decode cX0_clickIn 104 = .ok (.return_, 1) := by decide +kernel
theorem dX0_getOut_0 : decode cX0_getOut 0 = .ok (.aload_n 0, 1) := by decide +kernel
theorem dX0_getOut_1 : decode cX0_getOut 1 = .ok (.getfield 11, 3) := by decide +kernel
theorem dX0_getOut_4 : decode cX0_getOut 4 = .ok (.iload_n 1, 1) := by decide +kernel
theorem dX0_getOut_5 : decode cX0_getOut 5 = .ok (.aaload, 1) := by decide +kernel
theorem dX0_getOut_6 : decode cX0_getOut 6 = .ok (.getfield 75, 3) := by decide +kernel
theorem dX0_getOut_9 : decode cX0_getOut 9 = .ok (.istore_n 2, 1) := by decide +kernel
theorem dX0_getOut_10 : decode cX0_getOut 10 = .ok (.aload_n 0, 1) := by decide +kernel
theorem dX0_getOut_11 : decode cX0_getOut 11 = .ok (.iload_n 2, 1) := by decide +kernel
theorem dX0_getOut_12 : decode cX0_getOut 12 = .ok (.invokevirtual 118, 3) := by decide +kernel
theorem dX0_getOut_15 : decode cX0_getOut 15 = .ok (.ifCond .eq 23, 3) := by decide +kernel
theorem dX0_getOut_18 : decode cX0_getOut 18 = .ok (.aload_n 0, 1) := by decide +kernel
theorem dX0_getOut_19 : decode cX0_getOut 19 = .ok (.getfield 19, 3) := by decide +kernel
theorem dX0_getOut_22 : decode cX0_getOut 22 = .ok (.iload_n 2, 1) := by decide +kernel
theorem dX0_getOut_23 : decode cX0_getOut 23 = .ok (.aaload, 1) := by decide +kernel
theorem dX0_getOut_24 : decode cX0_getOut 24 = .ok (.iconst 0, 1) := by decide +kernel
theorem dX0_getOut_25 : decode cX0_getOut 25 = .ok (.putfield 94, 3) := by decide +kernel
theorem dX0_getOut_28 : decode cX0_getOut 28 = .ok (.aload_n 0, 1) := by decide +kernel
theorem dX0_getOut_29 : decode cX0_getOut 29 = .ok (.getfield 19, 3) := by decide +kernel
theorem dX0_getOut_32 : decode cX0_getOut 32 = .ok (.iload_n 2, 1) := by decide +kernel
theorem dX0_getOut_33 : decode cX0_getOut 33 = .ok (.aaload, 1) := by decide +kernel
theorem dX0_getOut_34 : decode cX0_getOut 34 = .ok (.iconst (-1), 1) := by decide +kernel
theorem dX0_getOut_35 : decode cX0_getOut 35 = .ok (.putfield 91, 3) := by decide +kernel
theorem dX0_getOut_38 : decode cX0_getOut 38 = .ok (.aload_n 0, 1) := by decide +kernel
theorem dX0_getOut_39 : decode cX0_getOut 39 = .ok (.getfield 11, 3) := by decide +kernel
theorem dX0_getOut_42 : decode cX0_getOut 42 = .ok (.iload_n 1, 1) := by decide +kernel
theorem dX0_getOut_43 : decode cX0_getOut 43 = .ok (.aaload, 1) := by decide +kernel
theorem dX0_getOut_44 : decode cX0_getOut 44 = .ok (.iconst (-1), 1) := by decide +kernel
theorem dX0_getOut_45 : decode cX0_getOut 45 = .ok (.putfield 75, 3) := by decide +kernel
theorem dX0_getOut_48 : decode cX0_getOut 48 = .ok (.return_, 1) := by decide +kernel
theorem dX0_giveBribe_0 : decode cX0_giveBribe 0 = .ok (.aload_n 0, 1) := by decide +kernel
theorem dX0_giveBribe_1 : decode cX0_giveBribe 1 = .ok (.getfield 19, 3) := by decide +kernel
theorem dX0_giveBribe_4 : decode cX0_giveBribe 4 = .ok (.iload_n 1, 1) := by decide +kernel
theorem dX0_giveBribe_5 : decode cX0_giveBribe 5 = .ok (.aaload, 1) := by decide +kernel
theorem dX0_giveBribe_6 : decode cX0_giveBribe 6 = .ok (.astore_n 2, 1) := by decide +kernel
theorem dX0_giveBribe_7 : decode cX0_giveBribe 7 = .ok (.aload_n 2, 1) := by decide +kernel
theorem dX0_giveBribe_8 : decode cX0_giveBribe 8 = .ok (.bipush 9, 2) := by decide +kernel
theorem dX0_giveBribe_10 : decode cX0_giveBribe 10 = .ok (.aload_n 2, 1) := by decide +kernel
theorem dX0_giveBribe_11 : decode cX0_giveBribe 11 = .ok (.getfield 122, 3) := by decide +kernel
theorem dX0_giveBribe_14 : decode cX0_giveBribe 14 = .ok (.iconst 3, 1) := by decide +kernel
theorem dX0_giveBribe_15 : decode cX0_giveBribe 15 = .ok (.iadd, 1) := by decide +kernel
theorem dX0_giveBribe_16 : decode cX0_giveBribe 16 = .ok (.invokestatic 102, 3) := by decide +kernel
theorem dX0_giveBribe_19 : decode cX0_giveBribe 19 = .ok (.putfield 122, 3) := by decide +kernel
theorem dX0_giveBribe_22 : decode cX0_giveBribe 22 = .ok (.aload_n 2, 1) := by decide +kernel
theorem dX0_giveBribe_23 : decode cX0_giveBribe 23 = .ok (.getfield 91, 3) := by decide +kernel
theorem dX0_giveBribe_26 : decode cX0_giveBribe 26 = .ok (.invokestatic 125, 3) := by decide +kernel
theorem dX0_giveBribe_29 : decode cX0_giveBribe 29 = .ok (.ifCond .eq 28, 3) := by decide +kernel
theorem dX0_giveBribe_32 : decode cX0_giveBribe 32 = .ok (.aload_n 0, 1) := by decide +kernel
theorem dX0_giveBribe_33 : decode cX0_giveBribe 33 = .ok (.getfield 11, 3) := by decide +kernel
theorem dX0_giveBribe_36 : decode cX0_giveBribe 36 = .ok (.aload_n 2, 1) := by decide +kernel
theorem dX0_giveBribe_37 : decode cX0_giveBribe 37 = .ok (.getfield 91, 3) := by decide +kernel
theorem dX0_giveBribe_40 : decode cX0_giveBribe 40 = .ok (.aaload, 1) := by decide +kernel
theorem dX0_giveBribe_41 : decode cX0_giveBribe 41 = .ok (.astore_n 3, 1) := by decide +kernel
theorem dX0_giveBribe_42 : decode cX0_giveBribe 42 = .ok (.aload_n 3, 1) := by decide +kernel
theorem dX0_giveBribe_43 : decode cX0_giveBribe 43 = .ok (.bipush 9, 2) := by decide +kernel
theorem dX0_giveBribe_45 : decode cX0_giveBribe 45 = .ok (.aload_n 3, 1) := by decide +kernel
theorem dX0_giveBribe_46 : decode cX0_giveBribe 46 = .ok (.getfield 65, 3) := by decide +kernel
theorem dX0_giveBribe_49 : decode cX0_giveBribe 49 = .ok (.iconst 1, 1) := by decide +kernel
theorem dX0_giveBribe_50 : decode cX0_giveBribe 50 = .ok (.iadd, 1) := by decide +kernel
theorem dX0_giveBribe_51 : decode cX0_giveBribe 51 = .ok (.invokestatic 102, 3) := by decide +kernel
theorem dX0_giveBribe_54 : decode cX0_giveBribe 54 = .ok (.putfield 65, 3) := by decide +kernel
theorem dX0_giveBribe_57 : decode cX0_giveBribe 57 = .ok (.return_, 1) := by decide +kernel
theorem dX0_passMinutes_0 : decode cX0_passMinutes 0 = .ok (.iconst 0, 1) := by decide +kernel
theorem dX0_passMinutes_1 : decode cX0_passMinutes 1 = .ok (.istore_n 2, 1) := by decide +kernel
theorem dX0_passMinutes_2 : decode cX0_passMinutes 2 = .ok (.iload_n 2, 1) := by decide +kernel
theorem dX0_passMinutes_3 : decode cX0_passMinutes 3 = .ok (.iload_n 1, 1) := by decide +kernel
theorem dX0_passMinutes_4 : decode cX0_passMinutes 4 = .ok (.if_icmp .ge 13, 3) := by decide +kernel
theorem dX0_passMinutes_7 : decode cX0_passMinutes 7 = .ok (.aload_n 0, 1) := by decide +kernel
theorem dX0_passMinutes_8 : decode cX0_passMinutes 8 = .ok (.invokevirtual 128, 3) := by decide +kernel
theorem dX0_passMinutes_11 : decode cX0_passMinutes 11 = .ok (.iinc 2 1, 3) := by decide +kernel
theorem dX0_passMinutes_14 : decode cX0_passMinutes 14 = .ok (.goto (-12), 3) := by decide +kernel
theorem dX0_passMinutes_17 : decode cX0_passMinutes 17 = .ok (.return_, 1) := by decide +kernel
theorem dX0_passMinute_0 : decode cX0_passMinute 0 = .ok (.iconst 0, 1) := by decide +kernel
theorem dX0_passMinute_1 : decode cX0_passMinute 1 = .ok (.istore_n 1, 1) := by decide +kernel
theorem dX0_passMinute_2 : decode cX0_passMinute 2 = .ok (.iload_n 1, 1) := by decide +kernel
theorem dX0_passMinute_3 : decode cX0_passMinute 3 = .ok (.iconst 3, 1) := by decide +kernel
theorem dX0_passMinute_4 : decode cX0_passMinute 4 = .ok (.if_icmp .ge 58, 3) := by decide +kernel
theorem dX0_passMinute_7 : decode cX0_passMinute 7 = .ok (.aload_n 0, 1) := by decide +kernel
theorem dX0_passMinute_8 : decode cX0_passMinute 8 = .ok (.aload_n 0, 1) := by decide +kernel
theorem dX0_passMinute_9 : decode cX0_passMinute 9 = .ok (.getfield 11, 3) := by decide +kernel
theorem dX0_passMinute_12 : decode cX0_passMinute 12 = .ok (.iload_n 1, 1) := by decide +kernel
theorem dX0_passMinute_13 : decode cX0_passMinute 13 = .ok (.aaload, 1) := by decide +kernel
theorem dX0_passMinute_14 : decode cX0_passMinute 14 = .ok (.getfield 75, 3) := by decide +kernel
theorem dX0_passMinute_17 : decode cX0_passMinute 17 = .ok (.invokevirtual 118, 3) := by decide +kernel
theorem dX0_passMinute_20 : decode cX0_passMinute 20 = .ok (.ifCond .eq 36, 3) := by decide +kernel
theorem dX0_passMinute_23 : decode cX0_passMinute 23 = .ok (.aload_n 0, 1) := by decide +kernel
theorem dX0_passMinute_24 : decode cX0_passMinute 24 = .ok (.getfield 19, 3) := by decide +kernel
theorem dX0_passMinute_27 : decode cX0_passMinute 27 = .ok (.aload_n 0, 1) := by decide +kernel
theorem dX0_passMinute_28 : decode cX0_passMinute 28 = .ok (.getfield 11, 3) := by decide +kernel
theorem dX0_passMinute_31 : decode cX0_passMinute 31 = .ok (.iload_n 1, 1) := by decide +kernel
theorem dX0_passMinute_32 : decode cX0_passMinute 32 = .ok (.aaload, 1) := by decide +kernel
theorem dX0_passMinute_33 : decode cX0_passMinute 33 = .ok (.getfield 75, 3) := by decide +kernel
theorem dX0_passMinute_36 : decode cX0_passMinute 36 = .ok (.aaload, 1) := by decide +kernel
theorem dX0_passMinute_37 : decode cX0_passMinute 37 = .ok (.astore_n 2, 1) := by decide +kernel
theorem dX0_passMinute_38 : decode cX0_passMinute 38 = .ok (.aload_n 2, 1) := by decide +kernel
theorem dX0_passMinute_39 : decode cX0_passMinute 39 = .ok (.iconst 0, 1) := by decide +kernel
theorem dX0_passMinute_40 : decode cX0_passMinute 40 = .ok (.aload_n 2, 1) := by decide +kernel
theorem dX0_passMinute_41 : decode cX0_passMinute 41 = .ok (.getfield 122, 3) := by decide +kernel
theorem dX0_passMinute_44 : decode cX0_passMinute 44 = .ok (.aload_n 0, 1) := by decide +kernel
theorem dX0_passMinute_45 : decode cX0_passMinute 45 = .ok (.aload_n 2, 1) := by decide +kernel
theorem dX0_passMinute_46 : decode cX0_passMinute 46 = .ok (.invokevirtual 131, 3) := by decide +kernel
theorem dX0_passMinute_49 : decode cX0_passMinute 49 = .ok (.isub, 1) := by decide +kernel
theorem dX0_passMinute_50 : decode cX0_passMinute 50 = .ok (.invokestatic 81, 3) := by decide +kernel
theorem dX0_passMinute_53 : decode cX0_passMinute 53 = .ok (.putfield 122, 3) := by decide +kernel
theorem dX0_passMinute_56 : decode cX0_passMinute 56 = .ok (.iinc 1 1, 3) := by decide +kernel
theorem dX0_passMinute_59 : decode cX0_passMinute 59 = .ok (.goto (-57), 3) := by decide +kernel
theorem dX0_passMinute_62 : decode cX0_passMinute 62 = .ok (.iconst 0, 1) := by decide +kernel
theorem dX0_passMinute_63 : decode cX0_passMinute 63 = .ok (.istore_n 1, 1) := by decide +kernel
theorem dX0_passMinute_64 : decode cX0_passMinute 64 = .ok (.iload_n 1, 1) := by decide +kernel
theorem dX0_passMinute_65 : decode cX0_passMinute 65 = .ok (.iconst 3, 1) := by decide +kernel
theorem dX0_passMinute_66 : decode cX0_passMinute 66 = .ok (.if_icmp .ge 30, 3) := by decide +kernel
theorem dX0_passMinute_69 : decode cX0_passMinute 69 = .ok (.aload_n 0, 1) := by decide +kernel
theorem dX0_passMinute_70 : decode cX0_passMinute 70 = .ok (.aload_n 0, 1) := by decide +kernel
theorem dX0_passMinute_71 : decode cX0_passMinute 71 = .ok (.getfield 11, 3) := by decide +kernel
theorem dX0_passMinute_74 : decode cX0_passMinute 74 = .ok (.iload_n 1, 1) := by decide +kernel
theorem dX0_passMinute_75 : decode cX0_passMinute 75 = .ok (.aaload, 1) := by decide +kernel
theorem dX0_passMinute_76 : decode cX0_passMinute 76 = .ok (.getfield 75, 3) := by decide +kernel
theorem dX0_passMinute_79 : decode cX0_passMinute 79 = .ok (.invokevirtual 118, 3) := by decide +kernel
theorem dX0_passMinute_82 : decode cX0_passMinute 82 = .ok (.ifCond .eq 8, 3) := by decide +kernel
theorem dX0_passMinute_85 : decode cX0_passMinute 85 = .ok (.aload_n 0, 1) := by decide +kernel
theorem dX0_passMinute_86 : decode cX0_passMinute 86 = .ok (.iload_n 1, 1) := by decide +kernel
theorem dX0_passMinute_87 : decode cX0_passMinute 87 = .ok (.invokevirtual 135, 3) := by decide +kernel
theorem dX0_passMinute_90 : decode cX0_passMinute 90 = .ok (.iinc 1 1, 3) := by decide +kernel
theorem dX0_passMinute_93 : decode cX0_passMinute 93 = .ok (.goto (-29), 3) := by decide +kernel
theorem dX0_passMinute_96 : decode cX0_passMinute 96 = .ok (.aload_n 0, 1) := by decide +kernel
theorem dX0_passMinute_97 : decode cX0_passMinute 97 = .ok (.dup, 1) := by decide +kernel
theorem dX0_passMinute_98 : decode cX0_passMinute 98 = .ok (.getfield 30, 3) := by decide +kernel
theorem dX0_passMinute_101 : decode cX0_passMinute 101 = .ok (.iconst 1, 1) := by decide +kernel
theorem dX0_passMinute_102 : decode cX0_passMinute 102 = .ok (.iadd, 1) := by decide +kernel
theorem dX0_passMinute_103 : decode cX0_passMinute 103 = .ok (.putfield 30, 3) := by decide +kernel
theorem dX0_passMinute_106 : decode cX0_passMinute 106 = .ok (.return_, 1) := by decide +kernel
theorem dX0_loosen_0 : decode cX0_loosen 0 = .ok (.aload_n 0, 1) := by decide +kernel
theorem dX0_loosen_1 : decode cX0_loosen 1 = .ok (.getfield 19, 3) := by decide +kernel
theorem dX0_loosen_4 : decode cX0_loosen 4 = .ok (.aload_n 0, 1) := by decide +kernel
theorem dX0_loosen_5 : decode cX0_loosen 5 = .ok (.getfield 11, 3) := by decide +kernel
theorem dX0_loosen_8 : decode cX0_loosen 8 = .ok (.iload_n 1, 1) := by decide +kernel
theorem dX0_loosen_9 : decode cX0_loosen 9 = .ok (.aaload, 1) := by decide +kernel
theorem dX0_loosen_10 : decode cX0_loosen 10 = .ok (.getfield 75, 3) := by decide +kernel
theorem dX0_loosen_13 : decode cX0_loosen 13 = .ok (.aaload, 1) := by decide +kernel
theorem dX0_loosen_14 : decode cX0_loosen 14 = .ok (.astore_n 2, 1) := by decide +kernel
theorem dX0_loosen_15 : decode cX0_loosen 15 = .ok (.aload_n 2, 1) := by decide +kernel
theorem dX0_loosen_16 : decode cX0_loosen 16 = .ok (.getfield 122, 3) := by decide +kernel
theorem dX0_loosen_19 : decode cX0_loosen 19 = .ok (.iconst 2, 1) := by decide +kernel
theorem dX0_loosen_20 : decode cX0_loosen 20 = .ok (.if_icmp .lt 4, 3) := by decide +kernel
theorem dX0_loosen_23 : decode cX0_loosen 23 = .ok (.return_, 1) := by decide +kernel
theorem dX0_loosen_24 : decode cX0_loosen 24 = .ok (.aload_n 2, 1) := by decide +kernel
theorem dX0_loosen_25 : decode cX0_loosen 25 = .ok (.iconst 0, 1) := by decide +kernel
theorem dX0_loosen_26 : decode cX0_loosen 26 = .ok (.aload_n 2, 1) := by decide +kernel
theorem dX0_loosen_27 : decode cX0_loosen 27 = .ok (.getfield 94, 3) := by decide +kernel
theorem dX0_loosen_30 : decode cX0_loosen 30 = .ok (.iconst 1, 1) := by decide +kernel
theorem dX0_loosen_31 : decode cX0_loosen 31 = .ok (.isub, 1) := by decide +kernel
theorem dX0_loosen_32 : decode cX0_loosen 32 = .ok (.invokestatic 81, 3) := by decide +kernel
theorem dX0_loosen_35 : decode cX0_loosen 35 = .ok (.putfield 94, 3) := by decide +kernel
theorem dX0_loosen_38 : decode cX0_loosen 38 = .ok (.aload_n 2, 1) := by decide +kernel
theorem dX0_loosen_39 : decode cX0_loosen 39 = .ok (.getfield 94, 3) := by decide +kernel
theorem dX0_loosen_42 : decode cX0_loosen 42 = .ok (.ifCond .ne 8, 3) := by decide +kernel
theorem dX0_loosen_45 : decode cX0_loosen 45 = .ok (.aload_n 0, 1) := by decide +kernel
theorem dX0_loosen_46 : decode cX0_loosen 46 = .ok (.iload_n 1, 1) := by decide +kernel
theorem dX0_loosen_47 : decode cX0_loosen 47 = .ok (.invokevirtual 138, 3) := by decide +kernel
theorem dX0_loosen_50 : decode cX0_loosen 50 = .ok (.return_, 1) := by decide +kernel
theorem dX0_sitting_0 : decode cX0_sitting 0 = .ok (.iconst 0, 1) := by decide +kernel
theorem dX0_sitting_1 : decode cX0_sitting 1 = .ok (.istore_n 1, 1) := by decide +kernel
theorem dX0_sitting_2 : decode cX0_sitting 2 = .ok (.iconst 0, 1) := by decide +kernel
theorem dX0_sitting_3 : decode cX0_sitting 3 = .ok (.istore_n 2, 1) := by decide +kernel
theorem dX0_sitting_4 : decode cX0_sitting 4 = .ok (.iload_n 2, 1) := by decide +kernel
theorem dX0_sitting_5 : decode cX0_sitting 5 = .ok (.iconst 3, 1) := by decide +kernel
theorem dX0_sitting_6 : decode cX0_sitting 6 = .ok (.if_icmp .ge 35, 3) := by decide +kernel
theorem dX0_sitting_9 : decode cX0_sitting 9 = .ok (.aload_n 0, 1) := by decide +kernel
theorem dX0_sitting_10 : decode cX0_sitting 10 = .ok (.getfield 11, 3) := by decide +kernel
theorem dX0_sitting_13 : decode cX0_sitting 13 = .ok (.iload_n 2, 1) := by decide +kernel
theorem dX0_sitting_14 : decode cX0_sitting 14 = .ok (.aaload, 1) := by decide +kernel
theorem dX0_sitting_15 : decode cX0_sitting 15 = .ok (.invokevirtual 141, 3) := by decide +kernel
theorem dX0_sitting_18 : decode cX0_sitting 18 = .ok (.ifCond .eq 17, 3) := by decide +kernel
theorem dX0_sitting_21 : decode cX0_sitting 21 = .ok (.iload_n 1, 1) := by decide +kernel
theorem dX0_sitting_22 : decode cX0_sitting 22 = .ok (.iconst 1, 1) := by decide +kernel
theorem dX0_sitting_23 : decode cX0_sitting 23 = .ok (.aload_n 0, 1) := by decide +kernel
theorem dX0_sitting_24 : decode cX0_sitting 24 = .ok (.getfield 11, 3) := by decide +kernel
theorem dX0_sitting_27 : decode cX0_sitting 27 = .ok (.iload_n 2, 1) := by decide +kernel
theorem dX0_sitting_28 : decode cX0_sitting 28 = .ok (.aaload, 1) := by decide +kernel
theorem dX0_sitting_29 : decode cX0_sitting 29 = .ok (.getfield 75, 3) := by decide +kernel
theorem dX0_sitting_32 : decode cX0_sitting 32 = .ok (.ishl, 1) := by decide +kernel
theorem dX0_sitting_33 : decode cX0_sitting 33 = .ok (.ior, 1) := by decide +kernel
theorem dX0_sitting_34 : decode cX0_sitting 34 = .ok (.istore_n 1, 1) := by decide +kernel
theorem dX0_sitting_35 : decode cX0_sitting 35 = .ok (.iinc 2 1, 3) := by decide +kernel
theorem dX0_sitting_38 : decode cX0_sitting 38 = .ok (.goto (-34), 3) := by decide +kernel
theorem dX0_sitting_41 : decode cX0_sitting 41 = .ok (.iload_n 1, 1) := by decide +kernel
theorem dX0_sitting_42 : decode cX0_sitting 42 = .ok (.ireturn, 1) := by decide +kernel
theorem dX0_quickestSeat_0 : decode cX0_quickestSeat 0 = .ok (.iconst (-1), 1) := by decide +kernel
theorem dX0_quickestSeat_1 : decode cX0_quickestSeat 1 = .ok (.istore_n 2, 1) := by decide +kernel
theorem dX0_quickestSeat_2 : decode cX0_quickestSeat 2 = .ok (.iconst 0, 1) := by decide +kernel
theorem dX0_quickestSeat_3 : decode cX0_quickestSeat 3 = .ok (.istore_n 3, 1) := by decide +kernel
theorem dX0_quickestSeat_4 : decode cX0_quickestSeat 4 = .ok (.iconst 0, 1) := by decide +kernel
theorem dX0_quickestSeat_5 : decode cX0_quickestSeat 5 = .ok (.istore 4, 2) := by decide +kernel
theorem dX0_quickestSeat_7 : decode cX0_quickestSeat 7 = .ok (.iload 4, 2) := by decide +kernel
theorem dX0_quickestSeat_9 : decode cX0_quickestSeat 9 = .ok (.iconst 3, 1) := by decide +kernel
theorem dX0_quickestSeat_10 : decode cX0_quickestSeat 10 = .ok (.if_icmp .ge 48, 3) := by decide +kernel
theorem dX0_quickestSeat_13 : decode cX0_quickestSeat 13 = .ok (.aload_n 0, 1) := by decide +kernel
theorem dX0_quickestSeat_14 : decode cX0_quickestSeat 14 = .ok (.iload_n 1, 1) := by decide +kernel
theorem dX0_quickestSeat_15 : decode cX0_quickestSeat 15 = .ok (.iload 4, 2) := by decide +kernel
theorem dX0_quickestSeat_17 : decode cX0_quickestSeat 17 = .ok (.invokevirtual 144, 3) := by decide +kernel
theorem dX0_quickestSeat_20 : decode cX0_quickestSeat 20 = .ok (.istore 5, 2) := by decide +kernel
theorem dX0_quickestSeat_22 : decode cX0_quickestSeat 22 = .ok (.aload_n 0, 1) := by decide +kernel
theorem dX0_quickestSeat_23 : decode cX0_quickestSeat 23 = .ok (.getfield 11, 3) := by decide +kernel
theorem dX0_quickestSeat_26 : decode cX0_quickestSeat 26 = .ok (.iload 4, 2) := by decide +kernel
theorem dX0_quickestSeat_28 : decode cX0_quickestSeat 28 = .ok (.aaload, 1) := by decide +kernel
theorem dX0_quickestSeat_29 : decode cX0_quickestSeat 29 = .ok (.invokevirtual 141, 3) := by decide +kernel
theorem dX0_quickestSeat_32 : decode cX0_quickestSeat 32 = .ok (.ifCond .ne 20, 3) := by decide +kernel
theorem dX0_quickestSeat_35 : decode cX0_quickestSeat 35 = .ok (.iload_n 2, 1) := by decide +kernel
theorem dX0_quickestSeat_36 : decode cX0_quickestSeat 36 = .ok (.iconst (-1), 1) := by decide +kernel
theorem dX0_quickestSeat_37 : decode cX0_quickestSeat 37 = .ok (.if_icmp .eq 9, 3) := by decide +kernel
theorem dX0_quickestSeat_40 : decode cX0_quickestSeat 40 = .ok (.iload 5, 2) := by decide +kernel
theorem dX0_quickestSeat_42 : decode cX0_quickestSeat 42 = .ok (.iload_n 3, 1) := by decide +kernel
theorem dX0_quickestSeat_43 : decode cX0_quickestSeat 43 = .ok (.if_icmp .ge 9, 3) := by decide +kernel
theorem dX0_quickestSeat_46 : decode cX0_quickestSeat 46 = .ok (.iload 4, 2) := by decide +kernel
theorem dX0_quickestSeat_48 : decode cX0_quickestSeat 48 = .ok (.istore_n 2, 1) := by decide +kernel
theorem dX0_quickestSeat_49 : decode cX0_quickestSeat 49 = .ok (.iload 5, 2) := by decide +kernel
theorem dX0_quickestSeat_51 : decode cX0_quickestSeat 51 = .ok (.istore_n 3, 1) := by decide +kernel
theorem dX0_quickestSeat_52 : decode cX0_quickestSeat 52 = .ok (.iinc 4 1, 3) := by decide +kernel
theorem dX0_quickestSeat_55 : decode cX0_quickestSeat 55 = .ok (.goto (-48), 3) := by decide +kernel
theorem dX0_quickestSeat_58 : decode cX0_quickestSeat 58 = .ok (.iload_n 2, 1) := by decide +kernel
theorem dX0_quickestSeat_59 : decode cX0_quickestSeat 59 = .ok (.ireturn, 1) := by decide +kernel
theorem dX0_snuggestSeat_0 : decode cX0_snuggestSeat 0 = .ok (.iconst (-1), 1) := by decide +kernel
theorem dX0_snuggestSeat_1 : decode cX0_snuggestSeat 1 = .ok (.istore_n 2, 1) := by decide +kernel
theorem dX0_snuggestSeat_2 : decode cX0_snuggestSeat 2 = .ok (.iconst 0, 1) := by decide +kernel
theorem dX0_snuggestSeat_3 : decode cX0_snuggestSeat 3 = .ok (.istore_n 3, 1) := by decide +kernel
theorem dX0_snuggestSeat_4 : decode cX0_snuggestSeat 4 = .ok (.iconst 0, 1) := by decide +kernel
theorem dX0_snuggestSeat_5 : decode cX0_snuggestSeat 5 = .ok (.istore 4, 2) := by decide +kernel
theorem dX0_snuggestSeat_7 : decode cX0_snuggestSeat 7 = .ok (.iload 4, 2) := by decide +kernel
theorem dX0_snuggestSeat_9 : decode cX0_snuggestSeat 9 = .ok (.iconst 3, 1) := by decide +kernel
theorem dX0_snuggestSeat_10 : decode cX0_snuggestSeat 10 = .ok (.if_icmp .ge 48, 3) := by decide +kernel
theorem dX0_snuggestSeat_13 : decode cX0_snuggestSeat 13 = .ok (.aload_n 0, 1) := by decide +kernel
theorem dX0_snuggestSeat_14 : decode cX0_snuggestSeat 14 = .ok (.iload_n 1, 1) := by decide +kernel
theorem dX0_snuggestSeat_15 : decode cX0_snuggestSeat 15 = .ok (.iload 4, 2) := by decide +kernel
theorem dX0_snuggestSeat_17 : decode cX0_snuggestSeat 17 = .ok (.invokevirtual 105, 3) := by decide +kernel
theorem dX0_snuggestSeat_20 : decode cX0_snuggestSeat 20 = .ok (.istore 5, 2) := by decide +kernel
theorem dX0_snuggestSeat_22 : decode cX0_snuggestSeat 22 = .ok (.aload_n 0, 1) := by decide +kernel
theorem dX0_snuggestSeat_23 : decode cX0_snuggestSeat 23 = .ok (.getfield 11, 3) := by decide +kernel
theorem dX0_snuggestSeat_26 : decode cX0_snuggestSeat 26 = .ok (.iload 4, 2) := by decide +kernel
theorem dX0_snuggestSeat_28 : decode cX0_snuggestSeat 28 = .ok (.aaload, 1) := by decide +kernel
theorem dX0_snuggestSeat_29 : decode cX0_snuggestSeat 29 = .ok (.invokevirtual 141, 3) := by decide +kernel
theorem dX0_snuggestSeat_32 : decode cX0_snuggestSeat 32 = .ok (.ifCond .ne 20, 3) := by decide +kernel
theorem dX0_snuggestSeat_35 : decode cX0_snuggestSeat 35 = .ok (.iload_n 2, 1) := by decide +kernel
theorem dX0_snuggestSeat_36 : decode cX0_snuggestSeat 36 = .ok (.iconst (-1), 1) := by decide +kernel
theorem dX0_snuggestSeat_37 : decode cX0_snuggestSeat 37 = .ok (.if_icmp .eq 9, 3) := by decide +kernel
theorem dX0_snuggestSeat_40 : decode cX0_snuggestSeat 40 = .ok (.iload 5, 2) := by decide +kernel
theorem dX0_snuggestSeat_42 : decode cX0_snuggestSeat 42 = .ok (.iload_n 3, 1) := by decide +kernel
theorem dX0_snuggestSeat_43 : decode cX0_snuggestSeat 43 = .ok (.if_icmp .le 9, 3) := by decide +kernel
theorem dX0_snuggestSeat_46 : decode cX0_snuggestSeat 46 = .ok (.iload 4, 2) := by decide +kernel
theorem dX0_snuggestSeat_48 : decode cX0_snuggestSeat 48 = .ok (.istore_n 2, 1) := by decide +kernel
theorem dX0_snuggestSeat_49 : decode cX0_snuggestSeat 49 = .ok (.iload 5, 2) := by decide +kernel
theorem dX0_snuggestSeat_51 : decode cX0_snuggestSeat 51 = .ok (.istore_n 3, 1) := by decide +kernel
theorem dX0_snuggestSeat_52 : decode cX0_snuggestSeat 52 = .ok (.iinc 4 1, 3) := by decide +kernel
theorem dX0_snuggestSeat_55 : decode cX0_snuggestSeat 55 = .ok (.goto (-48), 3) := by decide +kernel
theorem dX0_snuggestSeat_58 : decode cX0_snuggestSeat 58 = .ok (.iload_n 2, 1) := by decide +kernel
theorem dX0_snuggestSeat_59 : decode cX0_snuggestSeat 59 = .ok (.ireturn, 1) := by decide +kernel
theorem dX0_moods_0 : decode cX0_moods 0 = .ok (.iconst 0, 1) := by decide +kernel
theorem dX0_moods_1 : decode cX0_moods 1 = .ok (.istore_n 1, 1) := by decide +kernel
theorem dX0_moods_2 : decode cX0_moods 2 = .ok (.iconst 0, 1) := by decide +kernel
theorem dX0_moods_3 : decode cX0_moods 3 = .ok (.istore_n 2, 1) := by decide +kernel
theorem dX0_moods_4 : decode cX0_moods 4 = .ok (.iload_n 2, 1) := by decide +kernel
theorem dX0_moods_5 : decode cX0_moods 5 = .ok (.aload_n 0, 1) := by decide +kernel
theorem dX0_moods_6 : decode cX0_moods 6 = .ok (.getfield 23, 3) := by decide +kernel
theorem dX0_moods_9 : decode cX0_moods 9 = .ok (.if_icmp .ge 21, 3) := by decide +kernel
theorem dX0_moods_12 : decode cX0_moods 12 = .ok (.iload_n 1, 1) := by decide +kernel
theorem dX0_moods_13 : decode cX0_moods 13 = .ok (.aload_n 0, 1) := by decide +kernel
theorem dX0_moods_14 : decode cX0_moods 14 = .ok (.getfield 19, 3) := by decide +kernel
theorem dX0_moods_17 : decode cX0_moods 17 = .ok (.iload_n 2, 1) := by decide +kernel
theorem dX0_moods_18 : decode cX0_moods 18 = .ok (.aaload, 1) := by decide +kernel
theorem dX0_moods_19 : decode cX0_moods 19 = .ok (.getfield 122, 3) := by decide +kernel
theorem dX0_moods_22 : decode cX0_moods 22 = .ok (.iadd, 1) := by decide +kernel
theorem dX0_moods_23 : decode cX0_moods 23 = .ok (.istore_n 1, 1) := by decide +kernel
theorem dX0_moods_24 : decode cX0_moods 24 = .ok (.iinc 2 1, 3) := by decide +kernel
theorem dX0_moods_27 : decode cX0_moods 27 = .ok (.goto (-23), 3) := by decide +kernel
theorem dX0_moods_30 : decode cX0_moods 30 = .ok (.iload_n 1, 1) := by decide +kernel
theorem dX0_moods_31 : decode cX0_moods 31 = .ok (.ireturn, 1) := by decide +kernel
theorem dX0_tights_0 : decode cX0_tights 0 = .ok (.iconst 0, 1) := by decide +kernel
theorem dX0_tights_1 : decode cX0_tights 1 = .ok (.istore_n 1, 1) := by decide +kernel
theorem dX0_tights_2 : decode cX0_tights 2 = .ok (.iconst 0, 1) := by decide +kernel
theorem dX0_tights_3 : decode cX0_tights 3 = .ok (.istore_n 2, 1) := by decide +kernel
theorem dX0_tights_4 : decode cX0_tights 4 = .ok (.iload_n 2, 1) := by decide +kernel
theorem dX0_tights_5 : decode cX0_tights 5 = .ok (.aload_n 0, 1) := by decide +kernel
theorem dX0_tights_6 : decode cX0_tights 6 = .ok (.getfield 23, 3) := by decide +kernel
theorem dX0_tights_9 : decode cX0_tights 9 = .ok (.if_icmp .ge 21, 3) := by decide +kernel
theorem dX0_tights_12 : decode cX0_tights 12 = .ok (.iload_n 1, 1) := by decide +kernel
theorem dX0_tights_13 : decode cX0_tights 13 = .ok (.aload_n 0, 1) := by decide +kernel
theorem dX0_tights_14 : decode cX0_tights 14 = .ok (.getfield 19, 3) := by decide +kernel
theorem dX0_tights_17 : decode cX0_tights 17 = .ok (.iload_n 2, 1) := by decide +kernel
theorem dX0_tights_18 : decode cX0_tights 18 = .ok (.aaload, 1) := by decide +kernel
theorem dX0_tights_19 : decode cX0_tights 19 = .ok (.getfield 94, 3) := by decide +kernel
theorem dX0_tights_22 : decode cX0_tights 22 = .ok (.iadd, 1) := by decide +kernel
theorem dX0_tights_23 : decode cX0_tights 23 = .ok (.istore_n 1, 1) := by decide +kernel
theorem dX0_tights_24 : decode cX0_tights 24 = .ok (.iinc 2 1, 3) := by decide +kernel
theorem dX0_tights_27 : decode cX0_tights 27 = .ok (.goto (-23), 3) := by decide +kernel
theorem dX0_tights_30 : decode cX0_tights 30 = .ok (.iload_n 1, 1) := by decide +kernel
theorem dX0_tights_31 : decode cX0_tights 31 = .ok (.ireturn, 1) := by decide +kernel
theorem dX0_wears_0 : decode cX0_wears 0 = .ok (.iconst 0, 1) := by decide +kernel
theorem dX0_wears_1 : decode cX0_wears 1 = .ok (.istore_n 1, 1) := by decide +kernel
theorem dX0_wears_2 : decode cX0_wears 2 = .ok (.iconst 0, 1) := by decide +kernel
theorem dX0_wears_3 : decode cX0_wears 3 = .ok (.istore_n 2, 1) := by decide +kernel
theorem dX0_wears_4 : decode cX0_wears 4 = .ok (.iload_n 2, 1) := by decide +kernel
theorem dX0_wears_5 : decode cX0_wears 5 = .ok (.iconst 3, 1) := by decide +kernel
theorem dX0_wears_6 : decode cX0_wears 6 = .ok (.if_icmp .ge 21, 3) := by decide +kernel
theorem dX0_wears_9 : decode cX0_wears 9 = .ok (.iload_n 1, 1) := by decide +kernel
theorem dX0_wears_10 : decode cX0_wears 10 = .ok (.aload_n 0, 1) := by decide +kernel
theorem dX0_wears_11 : decode cX0_wears 11 = .ok (.getfield 11, 3) := by decide +kernel
theorem dX0_wears_14 : decode cX0_wears 14 = .ok (.iload_n 2, 1) := by decide +kernel
theorem dX0_wears_15 : decode cX0_wears 15 = .ok (.aaload, 1) := by decide +kernel
theorem dX0_wears_16 : decode cX0_wears 16 = .ok (.getfield 108, 3) := by decide +kernel
theorem dX0_wears_19 : decode cX0_wears 19 = .ok (.iadd, 1) := by decide +kernel
theorem dX0_wears_20 : decode cX0_wears 20 = .ok (.istore_n 1, 1) := by decide +kernel
theorem dX0_wears_21 : decode cX0_wears 21 = .ok (.iinc 2 1, 3) := by decide +kernel
theorem dX0_wears_24 : decode cX0_wears 24 = .ok (.goto (-20), 3) := by decide +kernel
theorem dX0_wears_27 : decode cX0_wears 27 = .ok (.iload_n 1, 1) := by decide +kernel
theorem dX0_wears_28 : decode cX0_wears 28 = .ok (.ireturn, 1) := by decide +kernel
theorem dX1_init_0 : decode cX1_init 0 = .ok (.aload_n 0, 1) := by decide +kernel
theorem dX1_init_1 : decode cX1_init 1 = .ok (.invokespecial 3, 3) := by decide +kernel
theorem dX1_init_4 : decode cX1_init 4 = .ok (.aload_n 0, 1) := by decide +kernel
theorem dX1_init_5 : decode cX1_init 5 = .ok (.new 9, 3) := by decide +kernel
theorem dX1_init_8 : decode cX1_init 8 = .ok (.dup, 1) := by decide +kernel
theorem dX1_init_9 : decode cX1_init 9 = .ok (.invokespecial 11, 3) := by decide +kernel
theorem dX1_init_12 : decode cX1_init 12 = .ok (.putfield 12, 3) := by decide +kernel
theorem dX1_init_15 : decode cX1_init 15 = .ok (.aload_n 0, 1) := by decide +kernel
theorem dX1_init_16 : decode cX1_init 16 = .ok (.iconst (-1), 1) := by decide +kernel
theorem dX1_init_17 : decode cX1_init 17 = .ok (.putfield 18, 3) := by decide +kernel
theorem dX1_init_20 : decode cX1_init 20 = .ok (.return_, 1) := by decide +kernel
theorem dX1_hasFault_0 : decode cX1_hasFault 0 = .ok (.aload_n 0, 1) := by decide +kernel
theorem dX1_hasFault_1 : decode cX1_hasFault 1 = .ok (.getfield 18, 3) := by decide +kernel
theorem dX1_hasFault_4 : decode cX1_hasFault 4 = .ok (.iconst (-1), 1) := by decide +kernel
theorem dX1_hasFault_5 : decode cX1_hasFault 5 = .ok (.if_icmp .eq 7, 3) := by decide +kernel
theorem dX1_hasFault_8 : decode cX1_hasFault 8 = .ok (.iconst 1, 1) := by decide +kernel
theorem dX1_hasFault_9 : decode cX1_hasFault 9 = .ok (.goto 4, 3) := by decide +kernel
theorem dX1_hasFault_12 : decode cX1_hasFault 12 = .ok (.iconst 0, 1) := by decide +kernel
theorem dX1_hasFault_13 : decode cX1_hasFault 13 = .ok (.ireturn, 1) := by decide +kernel
theorem dX1_parse_0 : decode cX1_parse 0 = .ok (.aload_n 0, 1) := by decide +kernel
theorem dX1_parse_1 : decode cX1_parse 1 = .ok (.iconst (-1), 1) := by decide +kernel
theorem dX1_parse_2 : decode cX1_parse 2 = .ok (.putfield 18, 3) := by decide +kernel
theorem dX1_parse_5 : decode cX1_parse 5 = .ok (.aload_n 0, 1) := by decide +kernel
theorem dX1_parse_6 : decode cX1_parse 6 = .ok (.getfield 12, 3) := by decide +kernel
theorem dX1_parse_9 : decode cX1_parse 9 = .ok (.invokevirtual 22, 3) := by decide +kernel
theorem dX1_parse_12 : decode cX1_parse 12 = .ok (.iconst 1, 1) := by decide +kernel
theorem dX1_parse_13 : decode cX1_parse 13 = .ok (.istore_n 2, 1) := by decide +kernel
theorem dX1_parse_14 : decode cX1_parse 14 = .ok (.iload_n 2, 1) := by decide +kernel
theorem dX1_parse_15 : decode cX1_parse 15 = .ok (.bipush 120, 2) := by decide +kernel
theorem dX1_parse_17 : decode cX1_parse 17 = .ok (.if_icmp .gt 64, 3) := by decide +kernel
theorem dX1_parse_20 : decode cX1_parse 20 = .ok (.aload_n 0, 1) := by decide +kernel
theorem dX1_parse_21 : decode cX1_parse 21 = .ok (.aload_n 1, 1) := by decide +kernel
theorem dX1_parse_22 : decode cX1_parse 22 = .ok (.invokevirtual 25, 3) := by decide +kernel
theorem dX1_parse_25 : decode cX1_parse 25 = .ok (.aload_n 0, 1) := by decide +kernel
theorem dX1_parse_26 : decode cX1_parse 26 = .ok (.invokevirtual 29, 3) := by decide +kernel
theorem dX1_parse_29 : decode cX1_parse 29 = .ok (.ifCond .ne 13, 3) := by decide +kernel
theorem dX1_parse_32 : decode cX1_parse 32 = .ok (.aload_n 0, 1) := by decide +kernel
theorem dX1_parse_33 : decode cX1_parse 33 = .ok (.getfield 12, 3) := by decide +kernel
theorem dX1_parse_36 : decode cX1_parse 36 = .ok (.getfield 33, 3) := by decide +kernel
theorem dX1_parse_39 : decode cX1_parse 39 = .ok (.ifCond .ne 5, 3) := by decide +kernel
theorem dX1_parse_42 : decode cX1_parse 42 = .ok (.iload_n 2, 1) := by decide +kernel
theorem dX1_parse_43 : decode cX1_parse 43 = .ok (.ireturn, 1) := by decide +kernel
theorem dX1_parse_44 : decode cX1_parse 44 = .ok (.aload_n 0, 1) := by decide +kernel
theorem dX1_parse_45 : decode cX1_parse 45 = .ok (.getfield 12, 3) := by decide +kernel
theorem dX1_parse_48 : decode cX1_parse 48 = .ok (.getfield 33, 3) := by decide +kernel
theorem dX1_parse_51 : decode cX1_parse 51 = .ok (.iconst 3, 1) := by decide +kernel
theorem dX1_parse_52 : decode cX1_parse 52 = .ok (.if_icmp .eq 16, 3) := by decide +kernel
theorem dX1_parse_55 : decode cX1_parse 55 = .ok (.aload_n 0, 1) := by decide +kernel
theorem dX1_parse_56 : decode cX1_parse 56 = .ok (.aload_n 0, 1) := by decide +kernel
theorem dX1_parse_57 : decode cX1_parse 57 = .ok (.getfield 12, 3) := by decide +kernel
theorem dX1_parse_60 : decode cX1_parse 60 = .ok (.getfield 36, 3) := by decide +kernel
theorem dX1_parse_63 : decode cX1_parse 63 = .ok (.putfield 18, 3) := by decide +kernel
theorem dX1_parse_66 : decode cX1_parse 66 = .ok (.iload_n 2, 1) := by decide +kernel
theorem dX1_parse_67 : decode cX1_parse 67 = .ok (.ireturn, 1) := by decide +kernel
theorem dX1_parse_68 : decode cX1_parse 68 = .ok (.aload_n 0, 1) := by decide +kernel
theorem dX1_parse_69 : decode cX1_parse 69 = .ok (.getfield 12, 3) := by decide +kernel
theorem dX1_parse_72 : decode cX1_parse 72 = .ok (.invokevirtual 39, 3) := by decide +kernel
theorem dX1_parse_75 : decode cX1_parse 75 = .ok (.iinc 2 1, 3) := by decide +kernel
theorem dX1_parse_78 : decode cX1_parse 78 = .ok (.goto (-64), 3) := by decide +kernel
theorem dX1_parse_81 : decode cX1_parse 81 = .ok (.bipush 120, 2) := by decide +kernel
theorem dX1_parse_83 : decode cX1_parse 83 = .ok (.ireturn, 1) := by decide +kernel
theorem dX1_parseItem_0 : decode cX1_parseItem 0 = .ok (.aload_n 0, 1) := by decide +kernel
theorem dX1_parseItem_1 : decode cX1_parseItem 1 = .ok (.invokevirtual 42, 3) := by decide +kernel
theorem dX1_parseItem_4 : decode cX1_parseItem 4 = .ok (.istore_n 2, 1) := by decide +kernel
theorem dX1_parseItem_5 : decode cX1_parseItem 5 = .ok (.iload_n 2, 1) := by decide +kernel
theorem dX1_parseItem_6 : decode cX1_parseItem 6 = .ok (.invokestatic 46, 3) := by decide +kernel
theorem dX1_parseItem_9 : decode cX1_parseItem 9 = .ok (.ifCond .eq 12, 3) := by decide +kernel
theorem dX1_parseItem_12 : decode cX1_parseItem 12 = .ok (.aload_n 0, 1) := by decide +kernel
theorem dX1_parseItem_13 : decode cX1_parseItem 13 = .ok (.aload_n 1, 1) := by decide +kernel
theorem dX1_parseItem_14 : decode cX1_parseItem 14 = .ok (.iload_n 2, 1) := by decide +kernel
theorem dX1_parseItem_15 : decode cX1_parseItem 15 = .ok (.invokevirtual 50, 3) := by decide +kernel
theorem dX1_parseItem_18 : decode cX1_parseItem 18 = .ok (.goto 59, 3) := by decide +kernel
theorem dX1_parseItem_21 : decode cX1_parseItem 21 = .ok (.aload_n 0, 1) := by decide +kernel
theorem dX1_parseItem_22 : decode cX1_parseItem 22 = .ok (.getfield 12, 3) := by decide +kernel
theorem dX1_parseItem_25 : decode cX1_parseItem 25 = .ok (.ldc 54, 2) := by decide +kernel
theorem dX1_parseItem_27 : decode cX1_parseItem 27 = .ok (.invokevirtual 56, 3) := by decide +kernel
theorem dX1_parseItem_30 : decode cX1_parseItem 30 = .ok (.ifCond .eq 11, 3) := by decide +kernel
theorem dX1_parseItem_33 : decode cX1_parseItem 33 = .ok (.aload_n 0, 1) := by decide +kernel
theorem dX1_parseItem_34 : decode cX1_parseItem 34 = .ok (.aload_n 1, 1) := by decide +kernel
theorem dX1_parseItem_35 : decode cX1_parseItem 35 = .ok (.invokevirtual 60, 3) := by decide +kernel
theorem dX1_parseItem_38 : decode cX1_parseItem 38 = .ok (.goto 39, 3) := by decide +kernel
theorem dX1_parseItem_41 : decode cX1_parseItem 41 = .ok (.aload_n 0, 1) := by decide +kernel
theorem dX1_parseItem_42 : decode cX1_parseItem 42 = .ok (.getfield 12, 3) := by decide +kernel
theorem dX1_parseItem_45 : decode cX1_parseItem 45 = .ok (.ldc 63, 2) := by decide +kernel
theorem dX1_parseItem_47 : decode cX1_parseItem 47 = .ok (.invokevirtual 56, 3) := by decide +kernel
theorem dX1_parseItem_50 : decode cX1_parseItem 50 = .ok (.ifCond .eq 16, 3) := by decide +kernel
theorem dX1_parseItem_53 : decode cX1_parseItem 53 = .ok (.aload_n 1, 1) := by decide +kernel
theorem dX1_parseItem_54 : decode cX1_parseItem 54 = .ok (.aload_n 0, 1) := by decide +kernel
theorem dX1_parseItem_55 : decode cX1_parseItem 55 = .ok (.bipush 9, 2) := by decide +kernel
theorem dX1_parseItem_57 : decode cX1_parseItem 57 = .ok (.invokevirtual 65, 3) := by decide +kernel
theorem dX1_parseItem_60 : decode cX1_parseItem 60 = .ok (.putfield 69, 3) := by decide +kernel
theorem dX1_parseItem_63 : decode cX1_parseItem 63 = .ok (.goto 14, 3) := by decide +kernel
theorem dX1_parseItem_66 : decode cX1_parseItem 66 = .ok (.aload_n 0, 1) := by decide +kernel
theorem dX1_parseItem_67 : decode cX1_parseItem 67 = .ok (.aload_n 0, 1) := by decide +kernel
theorem dX1_parseItem_68 : decode cX1_parseItem 68 = .ok (.getfield 12, 3) := by decide +kernel
theorem dX1_parseItem_71 : decode cX1_parseItem 71 = .ok (.getfield 36, 3) := by decide +kernel
theorem dX1_parseItem_74 : decode cX1_parseItem 74 = .ok (.putfield 18, 3) := by decide +kernel
theorem dX1_parseItem_77 : decode cX1_parseItem 77 = .ok (.return_, 1) := by decide +kernel
theorem dX1_parseChild_0 : decode cX1_parseChild 0 = .ok (.aload_n 1, 1) := by decide +kernel
theorem dX1_parseChild_1 : decode cX1_parseChild 1 = .ok (.invokevirtual 73, 3) := by decide +kernel
theorem dX1_parseChild_4 : decode cX1_parseChild 4 = .ok (.ifCond .eq 15, 3) := by decide +kernel
theorem dX1_parseChild_7 : decode cX1_parseChild 7 = .ok (.aload_n 0, 1) := by decide +kernel
theorem dX1_parseChild_8 : decode cX1_parseChild 8 = .ok (.aload_n 0, 1) := by decide +kernel
theorem dX1_parseChild_9 : decode cX1_parseChild 9 = .ok (.getfield 12, 3) := by decide +kernel
theorem dX1_parseChild_12 : decode cX1_parseChild 12 = .ok (.getfield 36, 3) := by decide +kernel
theorem dX1_parseChild_15 : decode cX1_parseChild 15 = .ok (.putfield 18, 3) := by decide +kernel
theorem dX1_parseChild_18 : decode cX1_parseChild 18 = .ok (.return_, 1) := by decide +kernel
theorem dX1_parseChild_19 : decode cX1_parseChild 19 = .ok (.aload_n 1, 1) := by decide +kernel
theorem dX1_parseChild_20 : decode cX1_parseChild 20 = .ok (.getfield 76, 3) := by decide +kernel
theorem dX1_parseChild_23 : decode cX1_parseChild 23 = .ok (.aload_n 1, 1) := by decide +kernel
theorem dX1_parseChild_24 : decode cX1_parseChild 24 = .ok (.iload_n 2, 1) := by decide +kernel
theorem dX1_parseChild_25 : decode cX1_parseChild 25 = .ok (.invokevirtual 80, 3) := by decide +kernel
theorem dX1_parseChild_28 : decode cX1_parseChild 28 = .ok (.aaload, 1) := by decide +kernel
theorem dX1_parseChild_29 : decode cX1_parseChild 29 = .ok (.astore_n 3, 1) := by decide +kernel
theorem dX1_parseChild_30 : decode cX1_parseChild 30 = .ok (.aload_n 0, 1) := by decide +kernel
theorem dX1_parseChild_31 : decode cX1_parseChild 31 = .ok (.getfield 12, 3) := by decide +kernel
theorem dX1_parseChild_34 : decode cX1_parseChild 34 = .ok (.invokevirtual 39, 3) := by decide +kernel
theorem dX1_parseChild_37 : decode cX1_parseChild 37 = .ok (.aload_n 0, 1) := by decide +kernel
theorem dX1_parseChild_38 : decode cX1_parseChild 38 = .ok (.getfield 12, 3) := by decide +kernel
theorem dX1_parseChild_41 : decode cX1_parseChild 41 = .ok (.ldc 83, 2) := by decide +kernel
theorem dX1_parseChild_43 : decode cX1_parseChild 43 = .ok (.invokevirtual 56, 3) := by decide +kernel
theorem dX1_parseChild_46 : decode cX1_parseChild 46 = .ok (.ifCond .eq 13, 3) := by decide +kernel
theorem dX1_parseChild_49 : decode cX1_parseChild 49 = .ok (.aload_n 3, 1) := by decide +kernel
theorem dX1_parseChild_50 : decode cX1_parseChild 50 = .ok (.aload_n 0, 1) := by decide +kernel
theorem dX1_parseChild_51 : decode cX1_parseChild 51 = .ok (.bipush 99, 2) := by decide +kernel
theorem dX1_parseChild_53 : decode cX1_parseChild 53 = .ok (.invokevirtual 65, 3) := by decide +kernel
theorem dX1_parseChild_56 : decode cX1_parseChild 56 = .ok (.putfield 85, 3) := by decide +kernel
theorem dX1_parseChild_59 : decode cX1_parseChild 59 = .ok (.aload_n 0, 1) := by decide +kernel
theorem dX1_parseChild_60 : decode cX1_parseChild 60 = .ok (.invokevirtual 29, 3) := by decide +kernel
theorem dX1_parseChild_63 : decode cX1_parseChild 63 = .ok (.ifCond .ne 25, 3) := by decide +kernel
theorem dX1_parseChild_66 : decode cX1_parseChild 66 = .ok (.aload_n 0, 1) := by decide +kernel
theorem dX1_parseChild_67 : decode cX1_parseChild 67 = .ok (.getfield 12, 3) := by decide +kernel
theorem dX1_parseChild_70 : decode cX1_parseChild 70 = .ok (.ldc 89, 2) := by decide +kernel
theorem dX1_parseChild_72 : decode cX1_parseChild 72 = .ok (.invokevirtual 56, 3) := by decide +kernel
theorem dX1_parseChild_75 : decode cX1_parseChild 75 = .ok (.ifCond .eq 13, 3) := by decide +kernel
theorem dX1_parseChild_78 : decode cX1_parseChild 78 = .ok (.aload_n 3, 1) := by decide +kernel
theorem dX1_parseChild_79 : decode cX1_parseChild 79 = .ok (.aload_n 0, 1) := by decide +kernel
theorem dX1_parseChild_80 : decode cX1_parseChild 80 = .ok (.bipush 9, 2) := by decide +kernel
theorem dX1_parseChild_82 : decode cX1_parseChild 82 = .ok (.invokevirtual 65, 3) := by decide +kernel
theorem dX1_parseChild_85 : decode cX1_parseChild 85 = .ok (.putfield 91, 3) := by decide +kernel
theorem dX1_parseChild_88 : decode cX1_parseChild 88 = .ok (.aload_n 0, 1) := by decide +kernel
theorem dX1_parseChild_89 : decode cX1_parseChild 89 = .ok (.invokevirtual 29, 3) := by decide +kernel
theorem dX1_parseChild_92 : decode cX1_parseChild 92 = .ok (.ifCond .ne 27, 3) := by decide +kernel
theorem dX1_parseChild_95 : decode cX1_parseChild 95 = .ok (.aload_n 0, 1) := by decide +kernel
theorem dX1_parseChild_96 : decode cX1_parseChild 96 = .ok (.getfield 12, 3) := by decide +kernel
theorem dX1_parseChild_99 : decode cX1_parseChild 99 = .ok (.ldc 93, 2) := by decide +kernel
theorem dX1_parseChild_101 : decode cX1_parseChild 101 = .ok (.invokevirtual 56, 3) := by decide +kernel
theorem dX1_parseChild_104 : decode cX1_parseChild 104 = .ok (.ifCond .eq 15, 3) := by decide +kernel
theorem dX1_parseChild_107 : decode cX1_parseChild 107 = .ok (.aload_n 3, 1) := by decide +kernel
theorem dX1_parseChild_108 : decode cX1_parseChild 108 = .ok (.iconst 1, 1) := by decide +kernel
theorem dX1_parseChild_109 : decode cX1_parseChild 109 = .ok (.putfield 95, 3) := by decide +kernel
theorem dX1_parseChild_112 : decode cX1_parseChild 112 = .ok (.aload_n 0, 1) := by decide +kernel
theorem dX1_parseChild_113 : decode cX1_parseChild 113 = .ok (.getfield 12, 3) := by decide +kernel
theorem dX1_parseChild_116 : decode cX1_parseChild 116 = .ok (.invokevirtual 39, 3) := by decide +kernel
theorem dX1_parseChild_119 : decode cX1_parseChild 119 = .ok (.return_, 1) := by decide +kernel
theorem dX1_parseSeat_0 : decode cX1_parseSeat 0 = .ok (.aload_n 0, 1) := by decide +kernel
theorem dX1_parseSeat_1 : decode cX1_parseSeat 1 = .ok (.iconst 2, 1) := by decide +kernel
theorem dX1_parseSeat_2 : decode cX1_parseSeat 2 = .ok (.invokevirtual 65, 3) := by decide +kernel
theorem dX1_parseSeat_5 : decode cX1_parseSeat 5 = .ok (.istore_n 2, 1) := by decide +kernel
theorem dX1_parseSeat_6 : decode cX1_parseSeat 6 = .ok (.aload_n 0, 1) := by decide +kernel
theorem dX1_parseSeat_7 : decode cX1_parseSeat 7 = .ok (.invokevirtual 29, 3) := by decide +kernel
theorem dX1_parseSeat_10 : decode cX1_parseSeat 10 = .ok (.ifCond .ne 10, 3) := by decide +kernel
theorem dX1_parseSeat_13 : decode cX1_parseSeat 13 = .ok (.iload_n 2, 1) := by decide +kernel
theorem dX1_parseSeat_14 : decode cX1_parseSeat 14 = .ok (.invokestatic 97, 3) := by decide +kernel
theorem dX1_parseSeat_17 : decode cX1_parseSeat 17 = .ok (.ifCond .ne 4, 3) := by decide +kernel
theorem dX1_parseSeat_20 : decode cX1_parseSeat 20 = .ok (.return_, 1) := by decide +kernel
theorem dX1_parseSeat_21 : decode cX1_parseSeat 21 = .ok (.aload_n 1, 1) := by decide +kernel
theorem dX1_parseSeat_22 : decode cX1_parseSeat 22 = .ok (.getfield 100, 3) := by decide +kernel
theorem dX1_parseSeat_25 : decode cX1_parseSeat 25 = .ok (.iload_n 2, 1) := by decide +kernel
theorem dX1_parseSeat_26 : decode cX1_parseSeat 26 = .ok (.aaload, 1) := by decide +kernel
theorem dX1_parseSeat_27 : decode cX1_parseSeat 27 = .ok (.astore_n 3, 1) := by decide +kernel
theorem dX1_parseSeat_28 : decode cX1_parseSeat 28 = .ok (.aload_n 3, 1) := by decide +kernel
theorem dX1_parseSeat_29 : decode cX1_parseSeat 29 = .ok (.iconst 0, 1) := by decide +kernel
theorem dX1_parseSeat_30 : decode cX1_parseSeat 30 = .ok (.putfield 104, 3) := by decide +kernel
theorem dX1_parseSeat_33 : decode cX1_parseSeat 33 = .ok (.aload_n 0, 1) := by decide +kernel
theorem dX1_parseSeat_34 : decode cX1_parseSeat 34 = .ok (.getfield 12, 3) := by decide +kernel
theorem dX1_parseSeat_37 : decode cX1_parseSeat 37 = .ok (.ldc 109, 2) := by decide +kernel
theorem dX1_parseSeat_39 : decode cX1_parseSeat 39 = .ok (.invokevirtual 56, 3) := by decide +kernel
theorem dX1_parseSeat_42 : decode cX1_parseSeat 42 = .ok (.ifCond .eq 12, 3) := by decide +kernel
theorem dX1_parseSeat_45 : decode cX1_parseSeat 45 = .ok (.aload_n 3, 1) := by decide +kernel
theorem dX1_parseSeat_46 : decode cX1_parseSeat 46 = .ok (.aload_n 0, 1) := by decide +kernel
theorem dX1_parseSeat_47 : decode cX1_parseSeat 47 = .ok (.iconst 5, 1) := by decide +kernel
theorem dX1_parseSeat_48 : decode cX1_parseSeat 48 = .ok (.invokevirtual 65, 3) := by decide +kernel
theorem dX1_parseSeat_51 : decode cX1_parseSeat 51 = .ok (.putfield 111, 3) := by decide +kernel
theorem dX1_parseSeat_54 : decode cX1_parseSeat 54 = .ok (.aload_n 0, 1) := by decide +kernel
theorem dX1_parseSeat_55 : decode cX1_parseSeat 55 = .ok (.invokevirtual 29, 3) := by decide +kernel
theorem dX1_parseSeat_58 : decode cX1_parseSeat 58 = .ok (.ifCond .ne 25, 3) := by decide +kernel
theorem dX1_parseSeat_61 : decode cX1_parseSeat 61 = .ok (.aload_n 0, 1) := by decide +kernel
theorem dX1_parseSeat_62 : decode cX1_parseSeat 62 = .ok (.getfield 12, 3) := by decide +kernel
theorem dX1_parseSeat_65 : decode cX1_parseSeat 65 = .ok (.ldc 113, 2) := by decide +kernel
theorem dX1_parseSeat_67 : decode cX1_parseSeat 67 = .ok (.invokevirtual 56, 3) := by decide +kernel
theorem dX1_parseSeat_70 : decode cX1_parseSeat 70 = .ok (.ifCond .eq 13, 3) := by decide +kernel
theorem dX1_parseSeat_73 : decode cX1_parseSeat 73 = .ok (.aload_n 3, 1) := by decide +kernel
theorem dX1_parseSeat_74 : decode cX1_parseSeat 74 = .ok (.aload_n 0, 1) := by decide +kernel
theorem dX1_parseSeat_75 : decode cX1_parseSeat 75 = .ok (.bipush 9, 2) := by decide +kernel
theorem dX1_parseSeat_77 : decode cX1_parseSeat 77 = .ok (.invokevirtual 65, 3) := by decide +kernel
theorem dX1_parseSeat_80 : decode cX1_parseSeat 80 = .ok (.putfield 115, 3) := by decide +kernel
theorem dX1_parseSeat_83 : decode cX1_parseSeat 83 = .ok (.aload_n 0, 1) := by decide +kernel
theorem dX1_parseSeat_84 : decode cX1_parseSeat 84 = .ok (.invokevirtual 29, 3) := by decide +kernel
theorem dX1_parseSeat_87 : decode cX1_parseSeat 87 = .ok (.ifCond .ne 27, 3) := by decide +kernel
theorem dX1_parseSeat_90 : decode cX1_parseSeat 90 = .ok (.aload_n 0, 1) := by decide +kernel
theorem dX1_parseSeat_91 : decode cX1_parseSeat 91 = .ok (.getfield 12, 3) := by decide +kernel
theorem dX1_parseSeat_94 : decode cX1_parseSeat 94 = .ok (.ldc 117, 2) := by decide +kernel
theorem dX1_parseSeat_96 : decode cX1_parseSeat 96 = .ok (.invokevirtual 56, 3) := by decide +kernel
theorem dX1_parseSeat_99 : decode cX1_parseSeat 99 = .ok (.ifCond .eq 15, 3) := by decide +kernel
theorem dX1_parseSeat_102 : decode cX1_parseSeat 102 = .ok (.aload_n 3, 1) := by decide +kernel
theorem dX1_parseSeat_103 : decode cX1_parseSeat 103 = .ok (.iconst 1, 1) := by decide +kernel
theorem dX1_parseSeat_104 : decode cX1_parseSeat 104 = .ok (.putfield 104, 3) := by decide +kernel
theorem dX1_parseSeat_107 : decode cX1_parseSeat 107 = .ok (.aload_n 0, 1) := by decide +kernel
theorem dX1_parseSeat_108 : decode cX1_parseSeat 108 = .ok (.getfield 12, 3) := by decide +kernel
theorem dX1_parseSeat_111 : decode cX1_parseSeat 111 = .ok (.invokevirtual 39, 3) := by decide +kernel
theorem dX1_parseSeat_114 : decode cX1_parseSeat 114 = .ok (.return_, 1) := by decide +kernel
theorem dX1_numberBehind_0 : decode cX1_numberBehind 0 = .ok (.aload_n 0, 1) := by decide +kernel
theorem dX1_numberBehind_1 : decode cX1_numberBehind 1 = .ok (.getfield 12, 3) := by decide +kernel
theorem dX1_numberBehind_4 : decode cX1_numberBehind 4 = .ok (.invokevirtual 39, 3) := by decide +kernel
theorem dX1_numberBehind_7 : decode cX1_numberBehind 7 = .ok (.aload_n 0, 1) := by decide +kernel
theorem dX1_numberBehind_8 : decode cX1_numberBehind 8 = .ok (.getfield 12, 3) := by decide +kernel
theorem dX1_numberBehind_11 : decode cX1_numberBehind 11 = .ok (.iload_n 1, 1) := by decide +kernel
theorem dX1_numberBehind_12 : decode cX1_numberBehind 12 = .ok (.invokevirtual 118, 3) := by decide +kernel
theorem dX1_numberBehind_15 : decode cX1_numberBehind 15 = .ok (.istore_n 2, 1) := by decide +kernel
theorem dX1_numberBehind_16 : decode cX1_numberBehind 16 = .ok (.iload_n 2, 1) := by decide +kernel
theorem dX1_numberBehind_17 : decode cX1_numberBehind 17 = .ok (.ifCond .ge 16, 3) := by decide +kernel
theorem dX1_numberBehind_20 : decode cX1_numberBehind 20 = .ok (.aload_n 0, 1) := by decide +kernel
theorem dX1_numberBehind_21 : decode cX1_numberBehind 21 = .ok (.aload_n 0, 1) := by decide +kernel
theorem dX1_numberBehind_22 : decode cX1_numberBehind 22 = .ok (.getfield 12, 3) := by decide +kernel
theorem dX1_numberBehind_25 : decode cX1_numberBehind 25 = .ok (.getfield 36, 3) := by decide +kernel
theorem dX1_numberBehind_28 : decode cX1_numberBehind 28 = .ok (.putfield 18, 3) := by decide +kernel
theorem dX1_numberBehind_31 : decode cX1_numberBehind 31 = .ok (.iconst 0, 1) := by decide +kernel
theorem dX1_numberBehind_32 : decode cX1_numberBehind 32 = .ok (.ireturn, 1) := by decide +kernel
theorem dX1_numberBehind_33 : decode cX1_numberBehind 33 = .ok (.aload_n 0, 1) := by decide +kernel
theorem dX1_numberBehind_34 : decode cX1_numberBehind 34 = .ok (.getfield 12, 3) := by decide +kernel
theorem dX1_numberBehind_37 : decode cX1_numberBehind 37 = .ok (.invokevirtual 39, 3) := by decide +kernel
theorem dX1_numberBehind_40 : decode cX1_numberBehind 40 = .ok (.iload_n 2, 1) := by decide +kernel
theorem dX1_numberBehind_41 : decode cX1_numberBehind 41 = .ok (.ireturn, 1) := by decide +kernel
theorem dX1_kindNamed_0 : decode cX1_kindNamed 0 = .ok (.iconst 0, 1) := by decide +kernel
theorem dX1_kindNamed_1 : decode cX1_kindNamed 1 = .ok (.istore_n 1, 1) := by decide +kernel
theorem dX1_kindNamed_2 : decode cX1_kindNamed 2 = .ok (.iload_n 1, 1) := by decide +kernel
theorem dX1_kindNamed_3 : decode cX1_kindNamed 3 = .ok (.bipush 6, 2) := by decide +kernel
theorem dX1_kindNamed_5 : decode cX1_kindNamed 5 = .ok (.if_icmp .ge 25, 3) := by decide +kernel
theorem dX1_kindNamed_8 : decode cX1_kindNamed 8 = .ok (.aload_n 0, 1) := by decide +kernel
theorem dX1_kindNamed_9 : decode cX1_kindNamed 9 = .ok (.getfield 12, 3) := by decide +kernel
theorem dX1_kindNamed_12 : decode cX1_kindNamed 12 = .ok (.iload_n 1, 1) := by decide +kernel
theorem dX1_kindNamed_13 : decode cX1_kindNamed 13 = .ok (.invokestatic 121, 3) := by decide +kernel
theorem dX1_kindNamed_16 : decode cX1_kindNamed 16 = .ok (.invokevirtual 56, 3) := by decide +kernel
theorem dX1_kindNamed_19 : decode cX1_kindNamed 19 = .ok (.ifCond .eq 5, 3) := by decide +kernel
theorem dX1_kindNamed_22 : decode cX1_kindNamed 22 = .ok (.iload_n 1, 1) := by decide +kernel
theorem dX1_kindNamed_23 : decode cX1_kindNamed 23 = .ok (.ireturn, 1) := by decide +kernel
theorem dX1_kindNamed_24 : decode cX1_kindNamed 24 = .ok (.iinc 1 1, 3) := by decide +kernel
theorem dX1_kindNamed_27 : decode cX1_kindNamed 27 = .ok (.goto (-25), 3) := by decide +kernel
theorem dX1_kindNamed_30 : decode cX1_kindNamed 30 = .ok (.iconst (-1), 1) := by decide +kernel
theorem dX1_kindNamed_31 : decode cX1_kindNamed 31 = .ok (.ireturn, 1) := by decide +kernel
theorem dX1_nameOf_0 : decode cX1_nameOf 0 = .ok (.iload_n 0, 1) := by decide +kernel
theorem dX1_nameOf_1 : decode cX1_nameOf 1 = .ok (.tableswitch 50 1 5 #[35, 38, 41, 44, 47], 35) := by decide +kernel
theorem dX1_nameOf_36 : decode cX1_nameOf 36 = .ok (.ldc 125, 2) := by decide +kernel
theorem dX1_nameOf_38 : decode cX1_nameOf 38 = .ok (.areturn, 1) := by decide +kernel
theorem dX1_nameOf_39 : decode cX1_nameOf 39 = .ok (.ldc 127, 2) := by decide +kernel
theorem dX1_nameOf_41 : decode cX1_nameOf 41 = .ok (.areturn, 1) := by decide +kernel
theorem dX1_nameOf_42 : decode cX1_nameOf 42 = .ok (.ldc 129, 2) := by decide +kernel
theorem dX1_nameOf_44 : decode cX1_nameOf 44 = .ok (.areturn, 1) := by decide +kernel
theorem dX1_nameOf_45 : decode cX1_nameOf 45 = .ok (.ldc 131, 2) := by decide +kernel
theorem dX1_nameOf_47 : decode cX1_nameOf 47 = .ok (.areturn, 1) := by decide +kernel
theorem dX1_nameOf_48 : decode cX1_nameOf 48 = .ok (.ldc 133, 2) := by decide +kernel
theorem dX1_nameOf_50 : decode cX1_nameOf 50 = .ok (.areturn, 1) := by decide +kernel
theorem dX1_nameOf_51 : decode cX1_nameOf 51 = .ok (.ldc 135, 2) := by decide +kernel
theorem dX1_nameOf_53 : decode cX1_nameOf 53 = .ok (.areturn, 1) := by decide +kernel
theorem dX2_init_0 : decode cX2_init 0 = .ok (.aload_n 0, 1) := by decide +kernel
theorem dX2_init_1 : decode cX2_init 1 = .ok (.invokespecial 3, 3) := by decide +kernel
theorem dX2_init_4 : decode cX2_init 4 = .ok (.aload_n 0, 1) := by decide +kernel
theorem dX2_init_5 : decode cX2_init 5 = .ok (.iconst 0, 1) := by decide +kernel
theorem dX2_init_6 : decode cX2_init 6 = .ok (.putfield 9, 3) := by decide +kernel
theorem dX2_init_9 : decode cX2_init 9 = .ok (.aload_n 0, 1) := by decide +kernel
theorem dX2_init_10 : decode cX2_init 10 = .ok (.iconst 0, 1) := by decide +kernel
theorem dX2_init_11 : decode cX2_init 11 = .ok (.putfield 15, 3) := by decide +kernel
theorem dX2_init_14 : decode cX2_init 14 = .ok (.aload_n 0, 1) := by decide +kernel
theorem dX2_init_15 : decode cX2_init 15 = .ok (.iconst 0, 1) := by decide +kernel
theorem dX2_init_16 : decode cX2_init 16 = .ok (.putfield 18, 3) := by decide +kernel
theorem dX2_init_19 : decode cX2_init 19 = .ok (.aload_n 0, 1) := by decide +kernel
theorem dX2_init_20 : decode cX2_init 20 = .ok (.iconst 0, 1) := by decide +kernel
theorem dX2_init_21 : decode cX2_init 21 = .ok (.putfield 21, 3) := by decide +kernel
theorem dX2_init_24 : decode cX2_init 24 = .ok (.aload_n 0, 1) := by decide +kernel
theorem dX2_init_25 : decode cX2_init 25 = .ok (.iconst 0, 1) := by decide +kernel
theorem dX2_init_26 : decode cX2_init 26 = .ok (.putfield 24, 3) := by decide +kernel
theorem dX2_init_29 : decode cX2_init 29 = .ok (.aload_n 0, 1) := by decide +kernel
theorem dX2_init_30 : decode cX2_init 30 = .ok (.iconst 0, 1) := by decide +kernel
theorem dX2_init_31 : decode cX2_init 31 = .ok (.putfield 27, 3) := by decide +kernel
theorem dX2_init_34 : decode cX2_init 34 = .ok (.aload_n 0, 1) := by decide +kernel
theorem dX2_init_35 : decode cX2_init 35 = .ok (.iconst (-1), 1) := by decide +kernel
theorem dX2_init_36 : decode cX2_init 36 = .ok (.putfield 30, 3) := by decide +kernel
theorem dX2_init_39 : decode cX2_init 39 = .ok (.return_, 1) := by decide +kernel
theorem dX2_most_0 : decode cX2_most 0 = .ok (.iload_n 0, 1) := by decide +kernel
theorem dX2_most_1 : decode cX2_most 1 = .ok (.tableswitch 35 1 3 #[27, 30, 33], 27) := by decide +kernel
theorem dX2_most_28 : decode cX2_most 28 = .ok (.bipush 99, 2) := by decide +kernel
theorem dX2_most_30 : decode cX2_most 30 = .ok (.ireturn, 1) := by decide +kernel
theorem dX2_most_31 : decode cX2_most 31 = .ok (.bipush 9, 2) := by decide +kernel
theorem dX2_most_33 : decode cX2_most 33 = .ok (.ireturn, 1) := by decide +kernel
theorem dX2_most_34 : decode cX2_most 34 = .ok (.iconst 1, 1) := by decide +kernel
theorem dX2_most_35 : decode cX2_most 35 = .ok (.ireturn, 1) := by decide +kernel
theorem dX2_most_36 : decode cX2_most 36 = .ok (.bipush 9, 2) := by decide +kernel
theorem dX2_most_38 : decode cX2_most 38 = .ok (.ireturn, 1) := by decide +kernel
theorem dX2_begin_0 : decode cX2_begin 0 = .ok (.aload_n 0, 1) := by decide +kernel
theorem dX2_begin_1 : decode cX2_begin 1 = .ok (.iload_n 1, 1) := by decide +kernel
theorem dX2_begin_2 : decode cX2_begin 2 = .ok (.putfield 9, 3) := by decide +kernel
theorem dX2_begin_5 : decode cX2_begin 5 = .ok (.aload_n 0, 1) := by decide +kernel
theorem dX2_begin_6 : decode cX2_begin 6 = .ok (.bipush 30, 2) := by decide +kernel
theorem dX2_begin_8 : decode cX2_begin 8 = .ok (.putfield 15, 3) := by decide +kernel
theorem dX2_begin_11 : decode cX2_begin 11 = .ok (.aload_n 0, 1) := by decide +kernel
theorem dX2_begin_12 : decode cX2_begin 12 = .ok (.iconst 5, 1) := by decide +kernel
theorem dX2_begin_13 : decode cX2_begin 13 = .ok (.putfield 18, 3) := by decide +kernel
theorem dX2_begin_16 : decode cX2_begin 16 = .ok (.aload_n 0, 1) := by decide +kernel
theorem dX2_begin_17 : decode cX2_begin 17 = .ok (.iconst 0, 1) := by decide +kernel
theorem dX2_begin_18 : decode cX2_begin 18 = .ok (.putfield 21, 3) := by decide +kernel
theorem dX2_begin_21 : decode cX2_begin 21 = .ok (.aload_n 0, 1) := by decide +kernel
theorem dX2_begin_22 : decode cX2_begin 22 = .ok (.iconst 0, 1) := by decide +kernel
theorem dX2_begin_23 : decode cX2_begin 23 = .ok (.putfield 24, 3) := by decide +kernel
theorem dX2_begin_26 : decode cX2_begin 26 = .ok (.aload_n 0, 1) := by decide +kernel
theorem dX2_begin_27 : decode cX2_begin 27 = .ok (.iconst 0, 1) := by decide +kernel
theorem dX2_begin_28 : decode cX2_begin 28 = .ok (.putfield 27, 3) := by decide +kernel
theorem dX2_begin_31 : decode cX2_begin 31 = .ok (.aload_n 0, 1) := by decide +kernel
theorem dX2_begin_32 : decode cX2_begin 32 = .ok (.iconst (-1), 1) := by decide +kernel
theorem dX2_begin_33 : decode cX2_begin 33 = .ok (.putfield 30, 3) := by decide +kernel
theorem dX2_begin_36 : decode cX2_begin 36 = .ok (.return_, 1) := by decide +kernel
theorem dX2_sits_0 : decode cX2_sits 0 = .ok (.aload_n 0, 1) := by decide +kernel
theorem dX2_sits_1 : decode cX2_sits 1 = .ok (.getfield 30, 3) := by decide +kernel
theorem dX2_sits_4 : decode cX2_sits 4 = .ok (.iconst (-1), 1) := by decide +kernel
theorem dX2_sits_5 : decode cX2_sits 5 = .ok (.if_icmp .eq 7, 3) := by decide +kernel
theorem dX2_sits_8 : decode cX2_sits 8 = .ok (.iconst 1, 1) := by decide +kernel
theorem dX2_sits_9 : decode cX2_sits 9 = .ok (.goto 4, 3) := by decide +kernel
theorem dX2_sits_12 : decode cX2_sits 12 = .ok (.iconst 0, 1) := by decide +kernel
theorem dX2_sits_13 : decode cX2_sits 13 = .ok (.ireturn, 1) := by decide +kernel
theorem dX2_get_0 : decode cX2_get 0 = .ok (.iload_n 1, 1) := by decide +kernel
theorem dX2_get_1 : decode cX2_get 1 = .ok (.tableswitch 69 0 5 #[39, 44, 49, 54, 59, 64], 39) := by decide +kernel
theorem dX2_get_40 : decode cX2_get 40 = .ok (.aload_n 0, 1) := by decide +kernel
theorem dX2_get_41 : decode cX2_get 41 = .ok (.getfield 9, 3) := by decide +kernel
theorem dX2_get_44 : decode cX2_get 44 = .ok (.ireturn, 1) := by decide +kernel
theorem dX2_get_45 : decode cX2_get 45 = .ok (.aload_n 0, 1) := by decide +kernel
theorem dX2_get_46 : decode cX2_get 46 = .ok (.getfield 15, 3) := by decide +kernel
theorem dX2_get_49 : decode cX2_get 49 = .ok (.ireturn, 1) := by decide +kernel
theorem dX2_get_50 : decode cX2_get 50 = .ok (.aload_n 0, 1) := by decide +kernel
theorem dX2_get_51 : decode cX2_get 51 = .ok (.getfield 18, 3) := by decide +kernel
theorem dX2_get_54 : decode cX2_get 54 = .ok (.ireturn, 1) := by decide +kernel
theorem dX2_get_55 : decode cX2_get 55 = .ok (.aload_n 0, 1) := by decide +kernel
theorem dX2_get_56 : decode cX2_get 56 = .ok (.getfield 21, 3) := by decide +kernel
theorem dX2_get_59 : decode cX2_get 59 = .ok (.ireturn, 1) := by decide +kernel
theorem dX2_get_60 : decode cX2_get 60 = .ok (.aload_n 0, 1) := by decide +kernel
theorem dX2_get_61 : decode cX2_get 61 = .ok (.getfield 24, 3) := by decide +kernel
theorem dX2_get_64 : decode cX2_get 64 = .ok (.ireturn, 1) := by decide +kernel
theorem dX2_get_65 : decode cX2_get 65 = .ok (.aload_n 0, 1) := by decide +kernel
theorem dX2_get_66 : decode cX2_get 66 = .ok (.getfield 27, 3) := by decide +kernel
theorem dX2_get_69 : decode cX2_get 69 = .ok (.ireturn, 1) := by decide +kernel
theorem dX2_get_70 : decode cX2_get 70 = .ok (.aload_n 0, 1) := by decide +kernel
theorem dX2_get_71 : decode cX2_get 71 = .ok (.getfield 30, 3) := by decide +kernel
theorem dX2_get_74 : decode cX2_get 74 = .ok (.ireturn, 1) := by decide +kernel
theorem dX2_put_0 : decode cX2_put 0 = .ok (.iload_n 1, 1) := by decide +kernel
theorem dX2_put_1 : decode cX2_put 1 = .ok (.tableswitch 51 1 3 #[27, 35, 43], 27) := by decide +kernel
theorem dX2_put_28 : decode cX2_put 28 = .ok (.aload_n 0, 1) := by decide +kernel
theorem dX2_put_29 : decode cX2_put 29 = .ok (.iload_n 2, 1) := by decide +kernel
theorem dX2_put_30 : decode cX2_put 30 = .ok (.putfield 15, 3) := by decide +kernel
theorem dX2_put_33 : decode cX2_put 33 = .ok (.goto 24, 3) := by decide +kernel
theorem dX2_put_36 : decode cX2_put 36 = .ok (.aload_n 0, 1) := by decide +kernel
theorem dX2_put_37 : decode cX2_put 37 = .ok (.iload_n 2, 1) := by decide +kernel
theorem dX2_put_38 : decode cX2_put 38 = .ok (.putfield 18, 3) := by decide +kernel
theorem dX2_put_41 : decode cX2_put 41 = .ok (.goto 16, 3) := by decide +kernel
theorem dX2_put_44 : decode cX2_put 44 = .ok (.aload_n 0, 1) := by decide +kernel
theorem dX2_put_45 : decode cX2_put 45 = .ok (.iload_n 2, 1) := by decide +kernel
theorem dX2_put_46 : decode cX2_put 46 = .ok (.putfield 21, 3) := by decide +kernel
theorem dX2_put_49 : decode cX2_put 49 = .ok (.goto 8, 3) := by decide +kernel
theorem dX2_put_52 : decode cX2_put 52 = .ok (.aload_n 0, 1) := by decide +kernel
theorem dX2_put_53 : decode cX2_put 53 = .ok (.iload_n 2, 1) := by decide +kernel
theorem dX2_put_54 : decode cX2_put 54 = .ok (.putfield 24, 3) := by decide +kernel
theorem dX2_put_57 : decode cX2_put 57 = .ok (.return_, 1) := by decide +kernel
theorem dX2_become_0 : decode cX2_become 0 = .ok (.aload_n 0, 1) := by decide +kernel
theorem dX2_become_1 : decode cX2_become 1 = .ok (.aload_n 1, 1) := by decide +kernel
theorem dX2_become_2 : decode cX2_become 2 = .ok (.getfield 9, 3) := by decide +kernel
theorem dX2_become_5 : decode cX2_become 5 = .ok (.putfield 9, 3) := by decide +kernel
theorem dX2_become_8 : decode cX2_become 8 = .ok (.aload_n 0, 1) := by decide +kernel
theorem dX2_become_9 : decode cX2_become 9 = .ok (.aload_n 1, 1) := by decide +kernel
theorem dX2_become_10 : decode cX2_become 10 = .ok (.getfield 15, 3) := by decide +kernel
theorem dX2_become_13 : decode cX2_become 13 = .ok (.putfield 15, 3) := by decide +kernel
theorem dX2_become_16 : decode cX2_become 16 = .ok (.aload_n 0, 1) := by decide +kernel
theorem dX2_become_17 : decode cX2_become 17 = .ok (.aload_n 1, 1) := by decide +kernel
theorem dX2_become_18 : decode cX2_become 18 = .ok (.getfield 18, 3) := by decide +kernel
theorem dX2_become_21 : decode cX2_become 21 = .ok (.putfield 18, 3) := by decide +kernel
theorem dX2_become_24 : decode cX2_become 24 = .ok (.aload_n 0, 1) := by decide +kernel
theorem dX2_become_25 : decode cX2_become 25 = .ok (.aload_n 1, 1) := by decide +kernel
theorem dX2_become_26 : decode cX2_become 26 = .ok (.getfield 21, 3) := by decide +kernel
theorem dX2_become_29 : decode cX2_become 29 = .ok (.putfield 21, 3) := by decide +kernel
theorem dX2_become_32 : decode cX2_become 32 = .ok (.aload_n 0, 1) := by decide +kernel
theorem dX2_become_33 : decode cX2_become 33 = .ok (.aload_n 1, 1) := by decide +kernel
theorem dX2_become_34 : decode cX2_become 34 = .ok (.getfield 24, 3) := by decide +kernel
theorem dX2_become_37 : decode cX2_become 37 = .ok (.putfield 24, 3) := by decide +kernel
theorem dX2_become_40 : decode cX2_become 40 = .ok (.aload_n 0, 1) := by decide +kernel
theorem dX2_become_41 : decode cX2_become 41 = .ok (.aload_n 1, 1) := by decide +kernel
theorem dX2_become_42 : decode cX2_become 42 = .ok (.getfield 27, 3) := by decide +kernel
theorem dX2_become_45 : decode cX2_become 45 = .ok (.putfield 27, 3) := by decide +kernel
theorem dX2_become_48 : decode cX2_become 48 = .ok (.aload_n 0, 1) := by decide +kernel
theorem dX2_become_49 : decode cX2_become 49 = .ok (.aload_n 1, 1) := by decide +kernel
theorem dX2_become_50 : decode cX2_become 50 = .ok (.getfield 30, 3) := by decide +kernel
theorem dX2_become_53 : decode cX2_become 53 = .ok (.putfield 30, 3) := by decide +kernel
theorem dX2_become_56 : decode cX2_become 56 = .ok (.return_, 1) := by decide +kernel
theorem dX3_isOneOf_0 : decode cX3_isOneOf 0 = .ok (.iload_n 0, 1) := by decide +kernel
theorem dX3_isOneOf_1 : decode cX3_isOneOf 1 = .ok (.istore_n 2, 1) := by decide +kernel
theorem dX3_isOneOf_2 : decode cX3_isOneOf 2 = .ok (.iconst 0, 1) := by decide +kernel
theorem dX3_isOneOf_3 : decode cX3_isOneOf 3 = .ok (.istore_n 3, 1) := by decide +kernel
theorem dX3_isOneOf_4 : decode cX3_isOneOf 4 = .ok (.iload_n 3, 1) := by decide +kernel
theorem dX3_isOneOf_5 : decode cX3_isOneOf 5 = .ok (.bipush 6, 2) := by decide +kernel
theorem dX3_isOneOf_7 : decode cX3_isOneOf 7 = .ok (.if_icmp .ge 29, 3) := by decide +kernel
theorem dX3_isOneOf_10 : decode cX3_isOneOf 10 = .ok (.iload_n 2, 1) := by decide +kernel
theorem dX3_isOneOf_11 : decode cX3_isOneOf 11 = .ok (.invokestatic 9, 3) := by decide +kernel
theorem dX3_isOneOf_14 : decode cX3_isOneOf 14 = .ok (.ifCond .eq 22, 3) := by decide +kernel
theorem dX3_isOneOf_17 : decode cX3_isOneOf 17 = .ok (.iload_n 2, 1) := by decide +kernel
theorem dX3_isOneOf_18 : decode cX3_isOneOf 18 = .ok (.iload_n 1, 1) := by decide +kernel
theorem dX3_isOneOf_19 : decode cX3_isOneOf 19 = .ok (.if_icmp .ne 5, 3) := by decide +kernel
theorem dX3_isOneOf_22 : decode cX3_isOneOf 22 = .ok (.iconst 1, 1) := by decide +kernel
theorem dX3_isOneOf_23 : decode cX3_isOneOf 23 = .ok (.ireturn, 1) := by decide +kernel
theorem dX3_isOneOf_24 : decode cX3_isOneOf 24 = .ok (.getstatic 13, 3) := by decide +kernel
theorem dX3_isOneOf_27 : decode cX3_isOneOf 27 = .ok (.iload_n 2, 1) := by decide +kernel
theorem dX3_isOneOf_28 : decode cX3_isOneOf 28 = .ok (.iaload, 1) := by decide +kernel
theorem dX3_isOneOf_29 : decode cX3_isOneOf 29 = .ok (.istore_n 2, 1) := by decide +kernel
theorem dX3_isOneOf_30 : decode cX3_isOneOf 30 = .ok (.iinc 3 1, 3) := by decide +kernel
theorem dX3_isOneOf_33 : decode cX3_isOneOf 33 = .ok (.goto (-29), 3) := by decide +kernel
theorem dX3_isOneOf_36 : decode cX3_isOneOf 36 = .ok (.iconst 0, 1) := by decide +kernel
theorem dX3_isOneOf_37 : decode cX3_isOneOf 37 = .ok (.ireturn, 1) := by decide +kernel
theorem dX3_takes_0 : decode cX3_takes 0 = .ok (.bipush 10, 2) := by decide +kernel
theorem dX3_takes_2 : decode cX3_takes 2 = .ok (.istore_n 3, 1) := by decide +kernel
theorem dX3_takes_3 : decode cX3_takes 3 = .ok (.iload_n 3, 1) := by decide +kernel
theorem dX3_takes_4 : decode cX3_takes 4 = .ok (.iconst 3, 1) := by decide +kernel
theorem dX3_takes_5 : decode cX3_takes 5 = .ok (.aload_n 1, 1) := by decide +kernel
theorem dX3_takes_6 : decode cX3_takes 6 = .ok (.getfield 19, 3) := by decide +kernel
theorem dX3_takes_9 : decode cX3_takes 9 = .ok (.imul, 1) := by decide +kernel
theorem dX3_takes_10 : decode cX3_takes 10 = .ok (.iadd, 1) := by decide +kernel
theorem dX3_takes_11 : decode cX3_takes 11 = .ok (.istore 4, 2) := by decide +kernel
theorem dX3_takes_13 : decode cX3_takes 13 = .ok (.iload_n 3, 1) := by decide +kernel
theorem dX3_takes_14 : decode cX3_takes 14 = .ok (.iconst 2, 1) := by decide +kernel
theorem dX3_takes_15 : decode cX3_takes 15 = .ok (.idiv, 1) := by decide +kernel
theorem dX3_takes_16 : decode cX3_takes 16 = .ok (.istore 5, 2) := by decide +kernel
theorem dX3_takes_18 : decode cX3_takes 18 = .ok (.iload_n 0, 1) := by decide +kernel
theorem dX3_takes_19 : decode cX3_takes 19 = .ok (.tableswitch 89 1 5 #[33, 36, 39, 55, 73], 33) := by decide +kernel
theorem dX3_takes_52 : decode cX3_takes 52 = .ok (.iload 4, 2) := by decide +kernel
theorem dX3_takes_54 : decode cX3_takes 54 = .ok (.ireturn, 1) := by decide +kernel
theorem dX3_takes_55 : decode cX3_takes 55 = .ok (.iload 5, 2) := by decide +kernel
theorem dX3_takes_57 : decode cX3_takes 57 = .ok (.ireturn, 1) := by decide +kernel
theorem dX3_takes_58 : decode cX3_takes 58 = .ok (.aload_n 2, 1) := by decide +kernel
theorem dX3_takes_59 : decode cX3_takes 59 = .ok (.getfield 25, 3) := by decide +kernel
theorem dX3_takes_62 : decode cX3_takes 62 = .ok (.iconst 1, 1) := by decide +kernel
theorem dX3_takes_63 : decode cX3_takes 63 = .ok (.if_icmp .ne 7, 3) := by decide +kernel
theorem dX3_takes_66 : decode cX3_takes 66 = .ok (.iload_n 3, 1) := by decide +kernel
theorem dX3_takes_67 : decode cX3_takes 67 = .ok (.goto 6, 3) := by decide +kernel
theorem dX3_takes_70 : decode cX3_takes 70 = .ok (.iload_n 3, 1) := by decide +kernel
theorem dX3_takes_71 : decode cX3_takes 71 = .ok (.iconst 5, 1) := by decide +kernel
theorem dX3_takes_72 : decode cX3_takes 72 = .ok (.iadd, 1) := by decide +kernel
theorem dX3_takes_73 : decode cX3_takes 73 = .ok (.ireturn, 1) := by decide +kernel
theorem dX3_takes_74 : decode cX3_takes 74 = .ok (.aload_n 1, 1) := by decide +kernel
theorem dX3_takes_75 : decode cX3_takes 75 = .ok (.getfield 30, 3) := by decide +kernel
theorem dX3_takes_78 : decode cX3_takes 78 = .ok (.iconst 3, 1) := by decide +kernel
theorem dX3_takes_79 : decode cX3_takes 79 = .ok (.if_icmp .ge 10, 3) := by decide +kernel
theorem dX3_takes_82 : decode cX3_takes 82 = .ok (.iconst 2, 1) := by decide +kernel
theorem dX3_takes_83 : decode cX3_takes 83 = .ok (.iload 4, 2) := by decide +kernel
theorem dX3_takes_85 : decode cX3_takes 85 = .ok (.imul, 1) := by decide +kernel
theorem dX3_takes_86 : decode cX3_takes 86 = .ok (.goto 5, 3) := by decide +kernel
theorem dX3_takes_89 : decode cX3_takes 89 = .ok (.iload 4, 2) := by decide +kernel
theorem dX3_takes_91 : decode cX3_takes 91 = .ok (.ireturn, 1) := by decide +kernel
theorem dX3_takes_92 : decode cX3_takes 92 = .ok (.aload_n 1, 1) := by decide +kernel
theorem dX3_takes_93 : decode cX3_takes 93 = .ok (.getfield 30, 3) := by decide +kernel
theorem dX3_takes_96 : decode cX3_takes 96 = .ok (.bipush 7, 2) := by decide +kernel
theorem dX3_takes_98 : decode cX3_takes 98 = .ok (.if_icmp .lt 7, 3) := by decide +kernel
theorem dX3_takes_101 : decode cX3_takes 101 = .ok (.iconst 0, 1) := by decide +kernel
theorem dX3_takes_102 : decode cX3_takes 102 = .ok (.goto 5, 3) := by decide +kernel
theorem dX3_takes_105 : decode cX3_takes 105 = .ok (.iload 5, 2) := by decide +kernel
theorem dX3_takes_107 : decode cX3_takes 107 = .ok (.ireturn, 1) := by decide +kernel
theorem dX3_takes_108 : decode cX3_takes 108 = .ok (.iload_n 3, 1) := by decide +kernel
theorem dX3_takes_109 : decode cX3_takes 109 = .ok (.ireturn, 1) := by decide +kernel
theorem dX3_snugs_0 : decode cX3_snugs 0 = .ok (.bipush 9, 2) := by decide +kernel
theorem dX3_snugs_2 : decode cX3_snugs 2 = .ok (.aload_n 2, 1) := by decide +kernel
theorem dX3_snugs_3 : decode cX3_snugs 3 = .ok (.getfield 33, 3) := by decide +kernel
theorem dX3_snugs_6 : decode cX3_snugs 6 = .ok (.isub, 1) := by decide +kernel
theorem dX3_snugs_7 : decode cX3_snugs 7 = .ok (.istore_n 3, 1) := by decide +kernel
theorem dX3_snugs_8 : decode cX3_snugs 8 = .ok (.iload_n 3, 1) := by decide +kernel
theorem dX3_snugs_9 : decode cX3_snugs 9 = .ok (.aload_n 1, 1) := by decide +kernel
theorem dX3_snugs_10 : decode cX3_snugs 10 = .ok (.getfield 36, 3) := by decide +kernel
theorem dX3_snugs_13 : decode cX3_snugs 13 = .ok (.bipush 40, 2) := by decide +kernel
theorem dX3_snugs_15 : decode cX3_snugs 15 = .ok (.idiv, 1) := by decide +kernel
theorem dX3_snugs_16 : decode cX3_snugs 16 = .ok (.isub, 1) := by decide +kernel
theorem dX3_snugs_17 : decode cX3_snugs 17 = .ok (.istore 4, 2) := by decide +kernel
theorem dX3_snugs_19 : decode cX3_snugs 19 = .ok (.iload_n 0, 1) := by decide +kernel
theorem dX3_snugs_20 : decode cX3_snugs 20 = .ok (.tableswitch 69 1 5 #[36, 45, 48, 36, 64], 36) := by decide +kernel
theorem dX3_snugs_56 : decode cX3_snugs 56 = .ok (.iload_n 3, 1) := by decide +kernel
theorem dX3_snugs_57 : decode cX3_snugs 57 = .ok (.aload_n 1, 1) := by decide +kernel
theorem dX3_snugs_58 : decode cX3_snugs 58 = .ok (.getfield 19, 3) := by decide +kernel
theorem dX3_snugs_61 : decode cX3_snugs 61 = .ok (.iconst 2, 1) := by decide +kernel
theorem dX3_snugs_62 : decode cX3_snugs 62 = .ok (.idiv, 1) := by decide +kernel
theorem dX3_snugs_63 : decode cX3_snugs 63 = .ok (.isub, 1) := by decide +kernel
theorem dX3_snugs_64 : decode cX3_snugs 64 = .ok (.ireturn, 1) := by decide +kernel
theorem dX3_snugs_65 : decode cX3_snugs 65 = .ok (.iload 4, 2) := by decide +kernel
theorem dX3_snugs_67 : decode cX3_snugs 67 = .ok (.ireturn, 1) := by decide +kernel
theorem dX3_snugs_68 : decode cX3_snugs 68 = .ok (.aload_n 2, 1) := by decide +kernel
theorem dX3_snugs_69 : decode cX3_snugs 69 = .ok (.getfield 25, 3) := by decide +kernel
theorem dX3_snugs_72 : decode cX3_snugs 72 = .ok (.iconst 1, 1) := by decide +kernel
theorem dX3_snugs_73 : decode cX3_snugs 73 = .ok (.if_icmp .ne 7, 3) := by decide +kernel
theorem dX3_snugs_76 : decode cX3_snugs 76 = .ok (.iload_n 3, 1) := by decide +kernel
theorem dX3_snugs_77 : decode cX3_snugs 77 = .ok (.goto 6, 3) := by decide +kernel
theorem dX3_snugs_80 : decode cX3_snugs 80 = .ok (.iload_n 3, 1) := by decide +kernel
theorem dX3_snugs_81 : decode cX3_snugs 81 = .ok (.iconst 4, 1) := by decide +kernel
theorem dX3_snugs_82 : decode cX3_snugs 82 = .ok (.isub, 1) := by decide +kernel
theorem dX3_snugs_83 : decode cX3_snugs 83 = .ok (.ireturn, 1) := by decide +kernel
theorem dX3_snugs_84 : decode cX3_snugs 84 = .ok (.iload 4, 2) := by decide +kernel
theorem dX3_snugs_86 : decode cX3_snugs 86 = .ok (.iconst 1, 1) := by decide +kernel
theorem dX3_snugs_87 : decode cX3_snugs 87 = .ok (.isub, 1) := by decide +kernel
theorem dX3_snugs_88 : decode cX3_snugs 88 = .ok (.ireturn, 1) := by decide +kernel
theorem dX3_snugs_89 : decode cX3_snugs 89 = .ok (.iload_n 3, 1) := by decide +kernel
theorem dX3_snugs_90 : decode cX3_snugs 90 = .ok (.ireturn, 1) := by decide +kernel
theorem dX3_frets_0 : decode cX3_frets 0 = .ok (.iload_n 1, 1) := by decide +kernel
theorem dX3_frets_1 : decode cX3_frets 1 = .ok (.iconst 3, 1) := by decide +kernel
theorem dX3_frets_2 : decode cX3_frets 2 = .ok (.irem, 1) := by decide +kernel
theorem dX3_frets_3 : decode cX3_frets 3 = .ok (.ifCond .ne 7, 3) := by decide +kernel
theorem dX3_frets_6 : decode cX3_frets 6 = .ok (.iconst 1, 1) := by decide +kernel
theorem dX3_frets_7 : decode cX3_frets 7 = .ok (.goto 4, 3) := by decide +kernel
theorem dX3_frets_10 : decode cX3_frets 10 = .ok (.iconst 0, 1) := by decide +kernel
theorem dX3_frets_11 : decode cX3_frets 11 = .ok (.istore 4, 2) := by decide +kernel
theorem dX3_frets_13 : decode cX3_frets 13 = .ok (.iload_n 2, 1) := by decide +kernel
theorem dX3_frets_14 : decode cX3_frets 14 = .ok (.bipush 6, 2) := by decide +kernel
theorem dX3_frets_16 : decode cX3_frets 16 = .ok (.if_icmp .le 10, 3) := by decide +kernel
theorem dX3_frets_19 : decode cX3_frets 19 = .ok (.iload 4, 2) := by decide +kernel
theorem dX3_frets_21 : decode cX3_frets 21 = .ok (.iconst 1, 1) := by decide +kernel
theorem dX3_frets_22 : decode cX3_frets 22 = .ok (.iadd, 1) := by decide +kernel
theorem dX3_frets_23 : decode cX3_frets 23 = .ok (.goto 5, 3) := by decide +kernel
theorem dX3_frets_26 : decode cX3_frets 26 = .ok (.iload 4, 2) := by decide +kernel
theorem dX3_frets_28 : decode cX3_frets 28 = .ok (.istore 5, 2) := by decide +kernel
theorem dX3_frets_30 : decode cX3_frets 30 = .ok (.iload_n 0, 1) := by decide +kernel
theorem dX3_frets_31 : decode cX3_frets 31 = .ok (.tableswitch 51 1 4 #[29, 51, 32, 46], 29) := by decide +kernel
theorem dX3_frets_60 : decode cX3_frets 60 = .ok (.iload 5, 2) := by decide +kernel
theorem dX3_frets_62 : decode cX3_frets 62 = .ok (.ireturn, 1) := by decide +kernel
theorem dX3_frets_63 : decode cX3_frets 63 = .ok (.iload_n 3, 1) := by decide +kernel
theorem dX3_frets_64 : decode cX3_frets 64 = .ok (.ifCond .eq 10, 3) := by decide +kernel
theorem dX3_frets_67 : decode cX3_frets 67 = .ok (.iload 4, 2) := by decide +kernel
theorem dX3_frets_69 : decode cX3_frets 69 = .ok (.iconst 1, 1) := by decide +kernel
theorem dX3_frets_70 : decode cX3_frets 70 = .ok (.iadd, 1) := by decide +kernel
theorem dX3_frets_71 : decode cX3_frets 71 = .ok (.goto 5, 3) := by decide +kernel
theorem dX3_frets_74 : decode cX3_frets 74 = .ok (.iload 4, 2) := by decide +kernel
theorem dX3_frets_76 : decode cX3_frets 76 = .ok (.ireturn, 1) := by decide +kernel
theorem dX3_frets_77 : decode cX3_frets 77 = .ok (.iconst 2, 1) := by decide +kernel
theorem dX3_frets_78 : decode cX3_frets 78 = .ok (.iload 5, 2) := by decide +kernel
theorem dX3_frets_80 : decode cX3_frets 80 = .ok (.imul, 1) := by decide +kernel
theorem dX3_frets_81 : decode cX3_frets 81 = .ok (.ireturn, 1) := by decide +kernel
theorem dX3_frets_82 : decode cX3_frets 82 = .ok (.iload 4, 2) := by decide +kernel
theorem dX3_frets_84 : decode cX3_frets 84 = .ok (.ireturn, 1) := by decide +kernel
theorem dX4_init_0 : decode cX4_init 0 = .ok (.aload_n 0, 1) := by decide +kernel
theorem dX4_init_1 : decode cX4_init 1 = .ok (.invokespecial 3, 3) := by decide +kernel
theorem dX4_init_4 : decode cX4_init 4 = .ok (.aload_n 0, 1) := by decide +kernel
theorem dX4_init_5 : decode cX4_init 5 = .ok (.iconst 0, 1) := by decide +kernel
theorem dX4_init_6 : decode cX4_init 6 = .ok (.putfield 9, 3) := by decide +kernel
theorem dX4_init_9 : decode cX4_init 9 = .ok (.aload_n 0, 1) := by decide +kernel
theorem dX4_init_10 : decode cX4_init 10 = .ok (.iconst 0, 1) := by decide +kernel
theorem dX4_init_11 : decode cX4_init 11 = .ok (.putfield 15, 3) := by decide +kernel
theorem dX4_init_14 : decode cX4_init 14 = .ok (.aload_n 0, 1) := by decide +kernel
theorem dX4_init_15 : decode cX4_init 15 = .ok (.iconst 0, 1) := by decide +kernel
theorem dX4_init_16 : decode cX4_init 16 = .ok (.putfield 18, 3) := by decide +kernel
theorem dX4_init_19 : decode cX4_init 19 = .ok (.aload_n 0, 1) := by decide +kernel
theorem dX4_init_20 : decode cX4_init 20 = .ok (.iconst 0, 1) := by decide +kernel
theorem dX4_init_21 : decode cX4_init 21 = .ok (.putfield 21, 3) := by decide +kernel
theorem dX4_init_24 : decode cX4_init 24 = .ok (.aload_n 0, 1) := by decide +kernel
theorem dX4_init_25 : decode cX4_init 25 = .ok (.iconst (-1), 1) := by decide +kernel
theorem dX4_init_26 : decode cX4_init 26 = .ok (.putfield 24, 3) := by decide +kernel
theorem dX4_init_29 : decode cX4_init 29 = .ok (.return_, 1) := by decide +kernel
theorem dX4_most_0 : decode cX4_most 0 = .ok (.iload_n 0, 1) := by decide +kernel
theorem dX4_most_1 : decode cX4_most 1 = .ok (.lookupswitch 32 #[(0, 27), (1, 29)], 27) := by decide +kernel
theorem dX4_most_28 : decode cX4_most 28 = .ok (.iconst 5, 1) := by decide +kernel
theorem dX4_most_29 : decode cX4_most 29 = .ok (.ireturn, 1) := by decide +kernel
theorem dX4_most_30 : decode cX4_most 30 = .ok (.bipush 9, 2) := by decide +kernel
theorem dX4_most_32 : decode cX4_most 32 = .ok (.ireturn, 1) := by decide +kernel
theorem dX4_most_33 : decode cX4_most 33 = .ok (.iconst 1, 1) := by decide +kernel
theorem dX4_most_34 : decode cX4_most 34 = .ok (.ireturn, 1) := by decide +kernel
theorem dX4_isTaken_0 : decode cX4_isTaken 0 = .ok (.aload_n 0, 1) := by decide +kernel
theorem dX4_isTaken_1 : decode cX4_isTaken 1 = .ok (.getfield 24, 3) := by decide +kernel
theorem dX4_isTaken_4 : decode cX4_isTaken 4 = .ok (.iconst (-1), 1) := by decide +kernel
theorem dX4_isTaken_5 : decode cX4_isTaken 5 = .ok (.if_icmp .eq 7, 3) := by decide +kernel
theorem dX4_isTaken_8 : decode cX4_isTaken 8 = .ok (.iconst 1, 1) := by decide +kernel
theorem dX4_isTaken_9 : decode cX4_isTaken 9 = .ok (.goto 4, 3) := by decide +kernel
theorem dX4_isTaken_12 : decode cX4_isTaken 12 = .ok (.iconst 0, 1) := by decide +kernel
theorem dX4_isTaken_13 : decode cX4_isTaken 13 = .ok (.ireturn, 1) := by decide +kernel
theorem dX4_get_0 : decode cX4_get 0 = .ok (.iload_n 1, 1) := by decide +kernel
theorem dX4_get_1 : decode cX4_get 1 = .ok (.tableswitch 51 0 3 #[31, 36, 41, 46], 31) := by decide +kernel
theorem dX4_get_32 : decode cX4_get 32 = .ok (.aload_n 0, 1) := by decide +kernel
theorem dX4_get_33 : decode cX4_get 33 = .ok (.getfield 9, 3) := by decide +kernel
theorem dX4_get_36 : decode cX4_get 36 = .ok (.ireturn, 1) := by decide +kernel
theorem dX4_get_37 : decode cX4_get 37 = .ok (.aload_n 0, 1) := by decide +kernel
theorem dX4_get_38 : decode cX4_get 38 = .ok (.getfield 15, 3) := by decide +kernel
theorem dX4_get_41 : decode cX4_get 41 = .ok (.ireturn, 1) := by decide +kernel
theorem dX4_get_42 : decode cX4_get 42 = .ok (.aload_n 0, 1) := by decide +kernel
theorem dX4_get_43 : decode cX4_get 43 = .ok (.getfield 18, 3) := by decide +kernel
theorem dX4_get_46 : decode cX4_get 46 = .ok (.ireturn, 1) := by decide +kernel
theorem dX4_get_47 : decode cX4_get 47 = .ok (.aload_n 0, 1) := by decide +kernel
theorem dX4_get_48 : decode cX4_get 48 = .ok (.getfield 21, 3) := by decide +kernel
theorem dX4_get_51 : decode cX4_get 51 = .ok (.ireturn, 1) := by decide +kernel
theorem dX4_get_52 : decode cX4_get 52 = .ok (.aload_n 0, 1) := by decide +kernel
theorem dX4_get_53 : decode cX4_get 53 = .ok (.getfield 24, 3) := by decide +kernel
theorem dX4_get_56 : decode cX4_get 56 = .ok (.ireturn, 1) := by decide +kernel
theorem dX4_put_0 : decode cX4_put 0 = .ok (.iload_n 1, 1) := by decide +kernel
theorem dX4_put_1 : decode cX4_put 1 = .ok (.lookupswitch 43 #[(0, 27), (1, 35)], 27) := by decide +kernel
theorem dX4_put_28 : decode cX4_put 28 = .ok (.aload_n 0, 1) := by decide +kernel
theorem dX4_put_29 : decode cX4_put 29 = .ok (.iload_n 2, 1) := by decide +kernel
theorem dX4_put_30 : decode cX4_put 30 = .ok (.putfield 9, 3) := by decide +kernel
theorem dX4_put_33 : decode cX4_put 33 = .ok (.goto 16, 3) := by decide +kernel
theorem dX4_put_36 : decode cX4_put 36 = .ok (.aload_n 0, 1) := by decide +kernel
theorem dX4_put_37 : decode cX4_put 37 = .ok (.iload_n 2, 1) := by decide +kernel
theorem dX4_put_38 : decode cX4_put 38 = .ok (.putfield 15, 3) := by decide +kernel
theorem dX4_put_41 : decode cX4_put 41 = .ok (.goto 8, 3) := by decide +kernel
theorem dX4_put_44 : decode cX4_put 44 = .ok (.aload_n 0, 1) := by decide +kernel
theorem dX4_put_45 : decode cX4_put 45 = .ok (.iload_n 2, 1) := by decide +kernel
theorem dX4_put_46 : decode cX4_put 46 = .ok (.putfield 18, 3) := by decide +kernel
theorem dX4_put_49 : decode cX4_put 49 = .ok (.return_, 1) := by decide +kernel
theorem dX4_become_0 : decode cX4_become 0 = .ok (.aload_n 0, 1) := by decide +kernel
theorem dX4_become_1 : decode cX4_become 1 = .ok (.aload_n 1, 1) := by decide +kernel
theorem dX4_become_2 : decode cX4_become 2 = .ok (.getfield 9, 3) := by decide +kernel
theorem dX4_become_5 : decode cX4_become 5 = .ok (.putfield 9, 3) := by decide +kernel
theorem dX4_become_8 : decode cX4_become 8 = .ok (.aload_n 0, 1) := by decide +kernel
theorem dX4_become_9 : decode cX4_become 9 = .ok (.aload_n 1, 1) := by decide +kernel
theorem dX4_become_10 : decode cX4_become 10 = .ok (.getfield 15, 3) := by decide +kernel
theorem dX4_become_13 : decode cX4_become 13 = .ok (.putfield 15, 3) := by decide +kernel
theorem dX4_become_16 : decode cX4_become 16 = .ok (.aload_n 0, 1) := by decide +kernel
theorem dX4_become_17 : decode cX4_become 17 = .ok (.aload_n 1, 1) := by decide +kernel
theorem dX4_become_18 : decode cX4_become 18 = .ok (.getfield 18, 3) := by decide +kernel
theorem dX4_become_21 : decode cX4_become 21 = .ok (.putfield 18, 3) := by decide +kernel
theorem dX4_become_24 : decode cX4_become 24 = .ok (.aload_n 0, 1) := by decide +kernel
theorem dX4_become_25 : decode cX4_become 25 = .ok (.aload_n 1, 1) := by decide +kernel
theorem dX4_become_26 : decode cX4_become 26 = .ok (.getfield 21, 3) := by decide +kernel
theorem dX4_become_29 : decode cX4_become 29 = .ok (.putfield 21, 3) := by decide +kernel
theorem dX4_become_32 : decode cX4_become 32 = .ok (.aload_n 0, 1) := by decide +kernel
theorem dX4_become_33 : decode cX4_become 33 = .ok (.aload_n 1, 1) := by decide +kernel
theorem dX4_become_34 : decode cX4_become 34 = .ok (.getfield 24, 3) := by decide +kernel
theorem dX4_become_37 : decode cX4_become 37 = .ok (.putfield 24, 3) := by decide +kernel
theorem dX4_become_40 : decode cX4_become 40 = .ok (.return_, 1) := by decide +kernel
theorem dX5_init_0 : decode cX5_init 0 = .ok (.aload_n 0, 1) := by decide +kernel
theorem dX5_init_1 : decode cX5_init 1 = .ok (.invokespecial 3, 3) := by decide +kernel
theorem dX5_init_4 : decode cX5_init 4 = .ok (.aload_n 0, 1) := by decide +kernel
theorem dX5_init_5 : decode cX5_init 5 = .ok (.bipush 40, 2) := by decide +kernel
theorem dX5_init_7 : decode cX5_init 7 = .ok (.newarray .long, 2) := by decide +kernel
theorem dX5_init_9 : decode cX5_init 9 = .ok (.putfield 9, 3) := by decide +kernel
theorem dX5_init_12 : decode cX5_init 12 = .ok (.aload_n 0, 1) := by decide +kernel
theorem dX5_init_13 : decode cX5_init 13 = .ok (.iconst 0, 1) := by decide +kernel
theorem dX5_init_14 : decode cX5_init 14 = .ok (.putfield 15, 3) := by decide +kernel
theorem dX5_init_17 : decode cX5_init 17 = .ok (.aload_n 0, 1) := by decide +kernel
theorem dX5_init_18 : decode cX5_init 18 = .ok (.iconst 0, 1) := by decide +kernel
theorem dX5_init_19 : decode cX5_init 19 = .ok (.putfield 19, 3) := by decide +kernel
theorem dX5_init_22 : decode cX5_init 22 = .ok (.return_, 1) := by decide +kernel
theorem dX5_isMissing_0 : decode cX5_isMissing 0 = .ok (.aload_n 0, 1) := by decide +kernel
theorem dX5_isMissing_1 : decode cX5_isMissing 1 = .ok (.getfield 15, 3) := by decide +kernel
theorem dX5_isMissing_4 : decode cX5_isMissing 4 = .ok (.ifCond .ne 7, 3) := by decide +kernel
theorem dX5_isMissing_7 : decode cX5_isMissing 7 = .ok (.iconst 1, 1) := by decide +kernel
theorem dX5_isMissing_8 : decode cX5_isMissing 8 = .ok (.goto 4, 3) := by decide +kernel
theorem dX5_isMissing_11 : decode cX5_isMissing 11 = .ok (.iconst 0, 1) := by decide +kernel
theorem dX5_isMissing_12 : decode cX5_isMissing 12 = .ok (.ireturn, 1) := by decide +kernel
theorem dX5_make_0 : decode cX5_make 0 = .ok (.aload_n 0, 1) := by decide +kernel
theorem dX5_make_1 : decode cX5_make 1 = .ok (.iload_n 1, 1) := by decide +kernel
theorem dX5_make_2 : decode cX5_make 2 = .ok (.putfield 15, 3) := by decide +kernel
theorem dX5_make_5 : decode cX5_make 5 = .ok (.aload_n 0, 1) := by decide +kernel
theorem dX5_make_6 : decode cX5_make 6 = .ok (.iload_n 2, 1) := by decide +kernel
theorem dX5_make_7 : decode cX5_make 7 = .ok (.putfield 19, 3) := by decide +kernel
theorem dX5_make_10 : decode cX5_make 10 = .ok (.iconst 0, 1) := by decide +kernel
theorem dX5_make_11 : decode cX5_make 11 = .ok (.istore_n 3, 1) := by decide +kernel
theorem dX5_make_12 : decode cX5_make 12 = .ok (.iload_n 3, 1) := by decide +kernel
theorem dX5_make_13 : decode cX5_make 13 = .ok (.bipush 40, 2) := by decide +kernel
theorem dX5_make_15 : decode cX5_make 15 = .ok (.if_icmp .ge 16, 3) := by decide +kernel
theorem dX5_make_18 : decode cX5_make 18 = .ok (.aload_n 0, 1) := by decide +kernel
theorem dX5_make_19 : decode cX5_make 19 = .ok (.getfield 9, 3) := by decide +kernel
theorem dX5_make_22 : decode cX5_make 22 = .ok (.iload_n 3, 1) := by decide +kernel
theorem dX5_make_23 : decode cX5_make 23 = .ok (.lconst 0, 1) := by decide +kernel
theorem dX5_make_24 : decode cX5_make 24 = .ok (.lastore, 1) := by decide +kernel
theorem dX5_make_25 : decode cX5_make 25 = .ok (.iinc 3 1, 3) := by decide +kernel
theorem dX5_make_28 : decode cX5_make 28 = .ok (.goto (-16), 3) := by decide +kernel
theorem dX5_make_31 : decode cX5_make 31 = .ok (.return_, 1) := by decide +kernel
theorem dX5_holds_0 : decode cX5_holds 0 = .ok (.iload_n 1, 1) := by decide +kernel
theorem dX5_holds_1 : decode cX5_holds 1 = .ok (.ifCond .lt 29, 3) := by decide +kernel
theorem dX5_holds_4 : decode cX5_holds 4 = .ok (.iload_n 2, 1) := by decide +kernel
theorem dX5_holds_5 : decode cX5_holds 5 = .ok (.ifCond .lt 25, 3) := by decide +kernel
theorem dX5_holds_8 : decode cX5_holds 8 = .ok (.iload_n 2, 1) := by decide +kernel
theorem dX5_holds_9 : decode cX5_holds 9 = .ok (.aload_n 0, 1) := by decide +kernel
theorem dX5_holds_10 : decode cX5_holds 10 = .ok (.getfield 19, 3) := by decide +kernel
theorem dX5_holds_13 : decode cX5_holds 13 = .ok (.if_icmp .gt 17, 3) := by decide +kernel
theorem dX5_holds_16 : decode cX5_holds 16 = .ok (.iload_n 1, 1) := by decide +kernel
theorem dX5_holds_17 : decode cX5_holds 17 = .ok (.aload_n 0, 1) := by decide +kernel
theorem dX5_holds_18 : decode cX5_holds 18 = .ok (.getfield 19, 3) := by decide +kernel
theorem dX5_holds_21 : decode cX5_holds 21 = .ok (.iload_n 2, 1) := by decide +kernel
theorem dX5_holds_22 : decode cX5_holds 22 = .ok (.isub, 1) := by decide +kernel
theorem dX5_holds_23 : decode cX5_holds 23 = .ok (.if_icmp .gt 7, 3) := by decide +kernel
theorem dX5_holds_26 : decode cX5_holds 26 = .ok (.iconst 1, 1) := by decide +kernel
theorem dX5_holds_27 : decode cX5_holds 27 = .ok (.goto 4, 3) := by decide +kernel
theorem dX5_holds_30 : decode cX5_holds 30 = .ok (.iconst 0, 1) := by decide +kernel
theorem dX5_holds_31 : decode cX5_holds 31 = .ok (.ireturn, 1) := by decide +kernel
theorem dX5_put_0 : decode cX5_put 0 = .ok (.aload_n 0, 1) := by decide +kernel
theorem dX5_put_1 : decode cX5_put 1 = .ok (.getfield 15, 3) := by decide +kernel
theorem dX5_put_4 : decode cX5_put 4 = .ok (.bipush 8, 2) := by decide +kernel
theorem dX5_put_6 : decode cX5_put 6 = .ok (.if_icmp .ne 16, 3) := by decide +kernel
theorem dX5_put_9 : decode cX5_put 9 = .ok (.aload_n 0, 1) := by decide +kernel
theorem dX5_put_10 : decode cX5_put 10 = .ok (.getfield 9, 3) := by decide +kernel
theorem dX5_put_13 : decode cX5_put 13 = .ok (.iload_n 1, 1) := by decide +kernel
theorem dX5_put_14 : decode cX5_put 14 = .ok (.lload_n 2, 1) := by decide +kernel
theorem dX5_put_15 : decode cX5_put 15 = .ok (.l2i, 1) := by decide +kernel
theorem dX5_put_16 : decode cX5_put 16 = .ok (.i2b, 1) := by decide +kernel
theorem dX5_put_17 : decode cX5_put 17 = .ok (.i2l, 1) := by decide +kernel
theorem dX5_put_18 : decode cX5_put 18 = .ok (.lastore, 1) := by decide +kernel
theorem dX5_put_19 : decode cX5_put 19 = .ok (.goto 32, 3) := by decide +kernel
theorem dX5_put_22 : decode cX5_put 22 = .ok (.aload_n 0, 1) := by decide +kernel
theorem dX5_put_23 : decode cX5_put 23 = .ok (.getfield 15, 3) := by decide +kernel
theorem dX5_put_26 : decode cX5_put 26 = .ok (.bipush 16, 2) := by decide +kernel
theorem dX5_put_28 : decode cX5_put 28 = .ok (.if_icmp .ne 16, 3) := by decide +kernel
theorem dX5_put_31 : decode cX5_put 31 = .ok (.aload_n 0, 1) := by decide +kernel
theorem dX5_put_32 : decode cX5_put 32 = .ok (.getfield 9, 3) := by decide +kernel
theorem dX5_put_35 : decode cX5_put 35 = .ok (.iload_n 1, 1) := by decide +kernel
theorem dX5_put_36 : decode cX5_put 36 = .ok (.lload_n 2, 1) := by decide +kernel
theorem dX5_put_37 : decode cX5_put 37 = .ok (.l2i, 1) := by decide +kernel
theorem dX5_put_38 : decode cX5_put 38 = .ok (.i2s, 1) := by decide +kernel
theorem dX5_put_39 : decode cX5_put 39 = .ok (.i2l, 1) := by decide +kernel
theorem dX5_put_40 : decode cX5_put 40 = .ok (.lastore, 1) := by decide +kernel
theorem dX5_put_41 : decode cX5_put 41 = .ok (.goto 10, 3) := by decide +kernel
theorem dX5_put_44 : decode cX5_put 44 = .ok (.aload_n 0, 1) := by decide +kernel
theorem dX5_put_45 : decode cX5_put 45 = .ok (.getfield 9, 3) := by decide +kernel
theorem dX5_put_48 : decode cX5_put 48 = .ok (.iload_n 1, 1) := by decide +kernel
theorem dX5_put_49 : decode cX5_put 49 = .ok (.lload_n 2, 1) := by decide +kernel
theorem dX5_put_50 : decode cX5_put 50 = .ok (.lastore, 1) := by decide +kernel
theorem dX5_put_51 : decode cX5_put 51 = .ok (.return_, 1) := by decide +kernel
theorem dX6_init_0 : decode cX6_init 0 = .ok (.aload_n 0, 1) := by decide +kernel
theorem dX6_init_1 : decode cX6_init 1 = .ok (.invokespecial 3, 3) := by decide +kernel
theorem dX6_init_4 : decode cX6_init 4 = .ok (.aload_n 0, 1) := by decide +kernel
theorem dX6_init_5 : decode cX6_init 5 = .ok (.bipush 120, 2) := by decide +kernel
theorem dX6_init_7 : decode cX6_init 7 = .ok (.newarray .int, 2) := by decide +kernel
theorem dX6_init_9 : decode cX6_init 9 = .ok (.putfield 9, 3) := by decide +kernel
theorem dX6_init_12 : decode cX6_init 12 = .ok (.aload_n 0, 1) := by decide +kernel
theorem dX6_init_13 : decode cX6_init 13 = .ok (.iconst 0, 1) := by decide +kernel
theorem dX6_init_14 : decode cX6_init 14 = .ok (.putfield 15, 3) := by decide +kernel
theorem dX6_init_17 : decode cX6_init 17 = .ok (.aload_n 0, 1) := by decide +kernel
theorem dX6_init_18 : decode cX6_init 18 = .ok (.iconst 0, 1) := by decide +kernel
theorem dX6_init_19 : decode cX6_init 19 = .ok (.putfield 19, 3) := by decide +kernel
theorem dX6_init_22 : decode cX6_init 22 = .ok (.aload_n 0, 1) := by decide +kernel
theorem dX6_init_23 : decode cX6_init 23 = .ok (.iconst 0, 1) := by decide +kernel
theorem dX6_init_24 : decode cX6_init 24 = .ok (.putfield 22, 3) := by decide +kernel
theorem dX6_init_27 : decode cX6_init 27 = .ok (.aload_n 0, 1) := by decide +kernel
theorem dX6_init_28 : decode cX6_init 28 = .ok (.iconst 0, 1) := by decide +kernel
theorem dX6_init_29 : decode cX6_init 29 = .ok (.putfield 25, 3) := by decide +kernel
theorem dX6_init_32 : decode cX6_init 32 = .ok (.aload_n 0, 1) := by decide +kernel
theorem dX6_init_33 : decode cX6_init 33 = .ok (.iconst 0, 1) := by decide +kernel
theorem dX6_init_34 : decode cX6_init 34 = .ok (.putfield 28, 3) := by decide +kernel
theorem dX6_init_37 : decode cX6_init 37 = .ok (.return_, 1) := by decide +kernel
theorem dX6_add_0 : decode cX6_add 0 = .ok (.aload_n 0, 1) := by decide +kernel
theorem dX6_add_1 : decode cX6_add 1 = .ok (.getfield 15, 3) := by decide +kernel
theorem dX6_add_4 : decode cX6_add 4 = .ok (.bipush 120, 2) := by decide +kernel
theorem dX6_add_6 : decode cX6_add 6 = .ok (.if_icmp .ge 23, 3) := by decide +kernel
theorem dX6_add_9 : decode cX6_add 9 = .ok (.aload_n 0, 1) := by decide +kernel
theorem dX6_add_10 : decode cX6_add 10 = .ok (.getfield 9, 3) := by decide +kernel
theorem dX6_add_13 : decode cX6_add 13 = .ok (.aload_n 0, 1) := by decide +kernel
theorem dX6_add_14 : decode cX6_add 14 = .ok (.getfield 15, 3) := by decide +kernel
theorem dX6_add_17 : decode cX6_add 17 = .ok (.iload_n 1, 1) := by decide +kernel
theorem dX6_add_18 : decode cX6_add 18 = .ok (.iastore, 1) := by decide +kernel
theorem dX6_add_19 : decode cX6_add 19 = .ok (.aload_n 0, 1) := by decide +kernel
theorem dX6_add_20 : decode cX6_add 20 = .ok (.dup, 1) := by decide +kernel
theorem dX6_add_21 : decode cX6_add 21 = .ok (.getfield 15, 3) := by decide +kernel
theorem dX6_add_24 : decode cX6_add 24 = .ok (.iconst 1, 1) := by decide +kernel
theorem dX6_add_25 : decode cX6_add 25 = .ok (.iadd, 1) := by decide +kernel
theorem dX6_add_26 : decode cX6_add 26 = .ok (.putfield 15, 3) := by decide +kernel
theorem dX6_add_29 : decode cX6_add 29 = .ok (.return_, 1) := by decide +kernel
theorem dX6_first_0 : decode cX6_first 0 = .ok (.aload_n 0, 1) := by decide +kernel
theorem dX6_first_1 : decode cX6_first 1 = .ok (.iconst 0, 1) := by decide +kernel
theorem dX6_first_2 : decode cX6_first 2 = .ok (.putfield 25, 3) := by decide +kernel
theorem dX6_first_5 : decode cX6_first 5 = .ok (.aload_n 0, 1) := by decide +kernel
theorem dX6_first_6 : decode cX6_first 6 = .ok (.invokevirtual 31, 3) := by decide +kernel
theorem dX6_first_9 : decode cX6_first 9 = .ok (.return_, 1) := by decide +kernel
theorem dX6_next_0 : decode cX6_next 0 = .ok (.aload_n 0, 1) := by decide +kernel
theorem dX6_next_1 : decode cX6_next 1 = .ok (.aload_n 0, 1) := by decide +kernel
theorem dX6_next_2 : decode cX6_next 2 = .ok (.getfield 25, 3) := by decide +kernel
theorem dX6_next_5 : decode cX6_next 5 = .ok (.putfield 22, 3) := by decide +kernel
theorem dX6_next_8 : decode cX6_next 8 = .ok (.iconst 0, 1) := by decide +kernel
theorem dX6_next_9 : decode cX6_next 9 = .ok (.istore_n 1, 1) := by decide +kernel
theorem dX6_next_10 : decode cX6_next 10 = .ok (.iload_n 1, 1) := by decide +kernel
theorem dX6_next_11 : decode cX6_next 11 = .ok (.bipush 120, 2) := by decide +kernel
theorem dX6_next_13 : decode cX6_next 13 = .ok (.if_icmp .ge 32, 3) := by decide +kernel
theorem dX6_next_16 : decode cX6_next 16 = .ok (.aload_n 0, 1) := by decide +kernel
theorem dX6_next_17 : decode cX6_next 17 = .ok (.aload_n 0, 1) := by decide +kernel
theorem dX6_next_18 : decode cX6_next 18 = .ok (.getfield 22, 3) := by decide +kernel
theorem dX6_next_21 : decode cX6_next 21 = .ok (.invokevirtual 34, 3) := by decide +kernel
theorem dX6_next_24 : decode cX6_next 24 = .ok (.bipush 32, 2) := by decide +kernel
theorem dX6_next_26 : decode cX6_next 26 = .ok (.if_icmp .ne 19, 3) := by decide +kernel
theorem dX6_next_29 : decode cX6_next 29 = .ok (.aload_n 0, 1) := by decide +kernel
theorem dX6_next_30 : decode cX6_next 30 = .ok (.dup, 1) := by decide +kernel
theorem dX6_next_31 : decode cX6_next 31 = .ok (.getfield 22, 3) := by decide +kernel
theorem dX6_next_34 : decode cX6_next 34 = .ok (.iconst 1, 1) := by decide +kernel
theorem dX6_next_35 : decode cX6_next 35 = .ok (.iadd, 1) := by decide +kernel
theorem dX6_next_36 : decode cX6_next 36 = .ok (.putfield 22, 3) := by decide +kernel
theorem dX6_next_39 : decode cX6_next 39 = .ok (.iinc 1 1, 3) := by decide +kernel
theorem dX6_next_42 : decode cX6_next 42 = .ok (.goto (-32), 3) := by decide +kernel
theorem dX6_next_45 : decode cX6_next 45 = .ok (.aload_n 0, 1) := by decide +kernel
theorem dX6_next_46 : decode cX6_next 46 = .ok (.aload_n 0, 1) := by decide +kernel
theorem dX6_next_47 : decode cX6_next 47 = .ok (.aload_n 0, 1) := by decide +kernel
theorem dX6_next_48 : decode cX6_next 48 = .ok (.getfield 22, 3) := by decide +kernel
theorem dX6_next_51 : decode cX6_next 51 = .ok (.invokevirtual 34, 3) := by decide +kernel
theorem dX6_next_54 : decode cX6_next 54 = .ok (.invokestatic 38, 3) := by decide +kernel
theorem dX6_next_57 : decode cX6_next 57 = .ok (.putfield 19, 3) := by decide +kernel
theorem dX6_next_60 : decode cX6_next 60 = .ok (.aload_n 0, 1) := by decide +kernel
theorem dX6_next_61 : decode cX6_next 61 = .ok (.aload_n 0, 1) := by decide +kernel
theorem dX6_next_62 : decode cX6_next 62 = .ok (.getfield 19, 3) := by decide +kernel
theorem dX6_next_65 : decode cX6_next 65 = .ok (.ifCond .ne 10, 3) := by decide +kernel
theorem dX6_next_68 : decode cX6_next 68 = .ok (.aload_n 0, 1) := by decide +kernel
theorem dX6_next_69 : decode cX6_next 69 = .ok (.getfield 22, 3) := by decide +kernel
theorem dX6_next_72 : decode cX6_next 72 = .ok (.goto 9, 3) := by decide +kernel
theorem dX6_next_75 : decode cX6_next 75 = .ok (.aload_n 0, 1) := by decide +kernel
theorem dX6_next_76 : decode cX6_next 76 = .ok (.getfield 22, 3) := by decide +kernel
theorem dX6_next_79 : decode cX6_next 79 = .ok (.iconst 1, 1) := by decide +kernel
theorem dX6_next_80 : decode cX6_next 80 = .ok (.iadd, 1) := by decide +kernel
theorem dX6_next_81 : decode cX6_next 81 = .ok (.putfield 25, 3) := by decide +kernel
theorem dX6_next_84 : decode cX6_next 84 = .ok (.aload_n 0, 1) := by decide +kernel
theorem dX6_next_85 : decode cX6_next 85 = .ok (.aload_n 0, 1) := by decide +kernel
theorem dX6_next_86 : decode cX6_next 86 = .ok (.getfield 19, 3) := by decide +kernel
theorem dX6_next_89 : decode cX6_next 89 = .ok (.iconst 2, 1) := by decide +kernel
theorem dX6_next_90 : decode cX6_next 90 = .ok (.if_icmp .ne 17, 3) := by decide +kernel
theorem dX6_next_93 : decode cX6_next 93 = .ok (.aload_n 0, 1) := by decide +kernel
theorem dX6_next_94 : decode cX6_next 94 = .ok (.aload_n 0, 1) := by decide +kernel
theorem dX6_next_95 : decode cX6_next 95 = .ok (.getfield 22, 3) := by decide +kernel
theorem dX6_next_98 : decode cX6_next 98 = .ok (.invokevirtual 34, 3) := by decide +kernel
theorem dX6_next_101 : decode cX6_next 101 = .ok (.bipush 48, 2) := by decide +kernel
theorem dX6_next_103 : decode cX6_next 103 = .ok (.isub, 1) := by decide +kernel
theorem dX6_next_104 : decode cX6_next 104 = .ok (.goto 4, 3) := by decide +kernel
theorem dX6_next_107 : decode cX6_next 107 = .ok (.iconst 0, 1) := by decide +kernel
theorem dX6_next_108 : decode cX6_next 108 = .ok (.putfield 28, 3) := by decide +kernel
theorem dX6_next_111 : decode cX6_next 111 = .ok (.aload_n 0, 1) := by decide +kernel
theorem dX6_next_112 : decode cX6_next 112 = .ok (.getfield 19, 3) := by decide +kernel
theorem dX6_next_115 : decode cX6_next 115 = .ok (.iconst 1, 1) := by decide +kernel
theorem dX6_next_116 : decode cX6_next 116 = .ok (.if_icmp .eq 11, 3) := by decide +kernel
theorem dX6_next_119 : decode cX6_next 119 = .ok (.aload_n 0, 1) := by decide +kernel
theorem dX6_next_120 : decode cX6_next 120 = .ok (.getfield 19, 3) := by decide +kernel
theorem dX6_next_123 : decode cX6_next 123 = .ok (.iconst 2, 1) := by decide +kernel
theorem dX6_next_124 : decode cX6_next 124 = .ok (.if_icmp .ne 7, 3) := by decide +kernel
theorem dX6_next_127 : decode cX6_next 127 = .ok (.iconst 1, 1) := by decide +kernel
theorem dX6_next_128 : decode cX6_next 128 = .ok (.goto 4, 3) := by decide +kernel
theorem dX6_next_131 : decode cX6_next 131 = .ok (.iconst 0, 1) := by decide +kernel
theorem dX6_next_132 : decode cX6_next 132 = .ok (.istore_n 1, 1) := by decide +kernel
theorem dX6_next_133 : decode cX6_next 133 = .ok (.iconst 0, 1) := by decide +kernel
theorem dX6_next_134 : decode cX6_next 134 = .ok (.istore_n 2, 1) := by decide +kernel
theorem dX6_next_135 : decode cX6_next 135 = .ok (.iload_n 2, 1) := by decide +kernel
theorem dX6_next_136 : decode cX6_next 136 = .ok (.bipush 120, 2) := by decide +kernel
theorem dX6_next_138 : decode cX6_next 138 = .ok (.if_icmp .ge 82, 3) := by decide +kernel
theorem dX6_next_141 : decode cX6_next 141 = .ok (.iload_n 1, 1) := by decide +kernel
theorem dX6_next_142 : decode cX6_next 142 = .ok (.ifCond .eq 78, 3) := by decide +kernel
theorem dX6_next_145 : decode cX6_next 145 = .ok (.aload_n 0, 1) := by decide +kernel
theorem dX6_next_146 : decode cX6_next 146 = .ok (.aload_n 0, 1) := by decide +kernel
theorem dX6_next_147 : decode cX6_next 147 = .ok (.getfield 25, 3) := by decide +kernel
theorem dX6_next_150 : decode cX6_next 150 = .ok (.invokevirtual 34, 3) := by decide +kernel
theorem dX6_next_153 : decode cX6_next 153 = .ok (.invokestatic 38, 3) := by decide +kernel
theorem dX6_next_156 : decode cX6_next 156 = .ok (.aload_n 0, 1) := by decide +kernel
theorem dX6_next_157 : decode cX6_next 157 = .ok (.getfield 19, 3) := by decide +kernel
theorem dX6_next_160 : decode cX6_next 160 = .ok (.if_icmp .ne 60, 3) := by decide +kernel
theorem dX6_next_163 : decode cX6_next 163 = .ok (.aload_n 0, 1) := by decide +kernel
theorem dX6_next_164 : decode cX6_next 164 = .ok (.aload_n 0, 1) := by decide +kernel
theorem dX6_next_165 : decode cX6_next 165 = .ok (.getfield 19, 3) := by decide +kernel
theorem dX6_next_168 : decode cX6_next 168 = .ok (.iconst 2, 1) := by decide +kernel
theorem dX6_next_169 : decode cX6_next 169 = .ok (.if_icmp .ne 31, 3) := by decide +kernel
theorem dX6_next_172 : decode cX6_next 172 = .ok (.sipush 1000, 3) := by decide +kernel
theorem dX6_next_175 : decode cX6_next 175 = .ok (.bipush 10, 2) := by decide +kernel
theorem dX6_next_177 : decode cX6_next 177 = .ok (.aload_n 0, 1) := by decide +kernel
theorem dX6_next_178 : decode cX6_next 178 = .ok (.getfield 28, 3) := by decide +kernel
theorem dX6_next_181 : decode cX6_next 181 = .ok (.imul, 1) := by decide +kernel
theorem dX6_next_182 : decode cX6_next 182 = .ok (.aload_n 0, 1) := by decide +kernel
theorem dX6_next_183 : decode cX6_next 183 = .ok (.aload_n 0, 1) := by decide +kernel
theorem dX6_next_184 : decode cX6_next 184 = .ok (.getfield 25, 3) := by decide +kernel
theorem dX6_next_187 : decode cX6_next 187 = .ok (.invokevirtual 34, 3) := by decide +kernel
theorem dX6_next_190 : decode cX6_next 190 = .ok (.iadd, 1) := by decide +kernel
theorem dX6_next_191 : decode cX6_next 191 = .ok (.bipush 48, 2) := by decide +kernel
theorem dX6_next_193 : decode cX6_next 193 = .ok (.isub, 1) := by decide +kernel
theorem dX6_next_194 : decode cX6_next 194 = .ok (.invokestatic 41, 3) := by decide +kernel
theorem dX6_next_197 : decode cX6_next 197 = .ok (.goto 4, 3) := by decide +kernel
theorem dX6_next_200 : decode cX6_next 200 = .ok (.iconst 0, 1) := by decide +kernel
theorem dX6_next_201 : decode cX6_next 201 = .ok (.putfield 28, 3) := by decide +kernel
theorem dX6_next_204 : decode cX6_next 204 = .ok (.aload_n 0, 1) := by decide +kernel
theorem dX6_next_205 : decode cX6_next 205 = .ok (.dup, 1) := by decide +kernel
theorem dX6_next_206 : decode cX6_next 206 = .ok (.getfield 25, 3) := by decide +kernel
theorem dX6_next_209 : decode cX6_next 209 = .ok (.iconst 1, 1) := by decide +kernel
theorem dX6_next_210 : decode cX6_next 210 = .ok (.iadd, 1) := by decide +kernel
theorem dX6_next_211 : decode cX6_next 211 = .ok (.putfield 25, 3) := by decide +kernel
theorem dX6_next_214 : decode cX6_next 214 = .ok (.iinc 2 1, 3) := by decide +kernel
theorem dX6_next_217 : decode cX6_next 217 = .ok (.goto (-82), 3) := by decide +kernel
theorem dX6_next_220 : decode cX6_next 220 = .ok (.return_, 1) := by decide +kernel
theorem dX6_tokenWith_0 : decode cX6_tokenWith 0 = .ok (.iload_n 0, 1) := by decide +kernel
theorem dX6_tokenWith_1 : decode cX6_tokenWith 1 = .ok (.ifCond .ge 5, 3) := by decide +kernel
theorem dX6_tokenWith_4 : decode cX6_tokenWith 4 = .ok (.iconst 0, 1) := by decide +kernel
theorem dX6_tokenWith_5 : decode cX6_tokenWith 5 = .ok (.ireturn, 1) := by decide +kernel
theorem dX6_tokenWith_6 : decode cX6_tokenWith 6 = .ok (.iload_n 0, 1) := by decide +kernel
theorem dX6_tokenWith_7 : decode cX6_tokenWith 7 = .ok (.bipush 97, 2) := by decide +kernel
theorem dX6_tokenWith_9 : decode cX6_tokenWith 9 = .ok (.if_icmp .lt 11, 3) := by decide +kernel
theorem dX6_tokenWith_12 : decode cX6_tokenWith 12 = .ok (.iload_n 0, 1) := by decide +kernel
theorem dX6_tokenWith_13 : decode cX6_tokenWith 13 = .ok (.bipush 122, 2) := by decide +kernel
theorem dX6_tokenWith_15 : decode cX6_tokenWith 15 = .ok (.if_icmp .gt 5, 3) := by decide +kernel
theorem dX6_tokenWith_18 : decode cX6_tokenWith 18 = .ok (.iconst 1, 1) := by decide +kernel
theorem dX6_tokenWith_19 : decode cX6_tokenWith 19 = .ok (.ireturn, 1) := by decide +kernel
theorem dX6_tokenWith_20 : decode cX6_tokenWith 20 = .ok (.iload_n 0, 1) := by decide +kernel
theorem dX6_tokenWith_21 : decode cX6_tokenWith 21 = .ok (.bipush 48, 2) := by decide +kernel
theorem dX6_tokenWith_23 : decode cX6_tokenWith 23 = .ok (.if_icmp .lt 11, 3) := by decide +kernel
theorem dX6_tokenWith_26 : decode cX6_tokenWith 26 = .ok (.iload_n 0, 1) := by decide +kernel
theorem dX6_tokenWith_27 : decode cX6_tokenWith 27 = .ok (.bipush 57, 2) := by decide +kernel
theorem dX6_tokenWith_29 : decode cX6_tokenWith 29 = .ok (.if_icmp .gt 5, 3) := by decide +kernel
theorem dX6_tokenWith_32 : decode cX6_tokenWith 32 = .ok (.iconst 2, 1) := by decide +kernel
theorem dX6_tokenWith_33 : decode cX6_tokenWith 33 = .ok (.ireturn, 1) := by decide +kernel
theorem dX6_tokenWith_34 : decode cX6_tokenWith 34 = .ok (.iload_n 0, 1) := by decide +kernel
theorem dX6_tokenWith_35 : decode cX6_tokenWith 35 = .ok (.bipush 59, 2) := by decide +kernel
theorem dX6_tokenWith_37 : decode cX6_tokenWith 37 = .ok (.if_icmp .ne 7, 3) := by decide +kernel
theorem dX6_tokenWith_40 : decode cX6_tokenWith 40 = .ok (.iconst 3, 1) := by decide +kernel
theorem dX6_tokenWith_41 : decode cX6_tokenWith 41 = .ok (.goto 4, 3) := by decide +kernel
theorem dX6_tokenWith_44 : decode cX6_tokenWith 44 = .ok (.iconst 4, 1) := by decide +kernel
theorem dX6_tokenWith_45 : decode cX6_tokenWith 45 = .ok (.ireturn, 1) := by decide +kernel
theorem dX6_byteAt_0 : decode cX6_byteAt 0 = .ok (.iload_n 1, 1) := by decide +kernel
theorem dX6_byteAt_1 : decode cX6_byteAt 1 = .ok (.ifCond .lt 26, 3) := by decide +kernel
theorem dX6_byteAt_4 : decode cX6_byteAt 4 = .ok (.iload_n 1, 1) := by decide +kernel
theorem dX6_byteAt_5 : decode cX6_byteAt 5 = .ok (.aload_n 0, 1) := by decide +kernel
theorem dX6_byteAt_6 : decode cX6_byteAt 6 = .ok (.getfield 15, 3) := by decide +kernel
theorem dX6_byteAt_9 : decode cX6_byteAt 9 = .ok (.if_icmp .ge 18, 3) := by decide +kernel
theorem dX6_byteAt_12 : decode cX6_byteAt 12 = .ok (.iload_n 1, 1) := by decide +kernel
theorem dX6_byteAt_13 : decode cX6_byteAt 13 = .ok (.bipush 120, 2) := by decide +kernel
theorem dX6_byteAt_15 : decode cX6_byteAt 15 = .ok (.if_icmp .ge 12, 3) := by decide +kernel
theorem dX6_byteAt_18 : decode cX6_byteAt 18 = .ok (.aload_n 0, 1) := by decide +kernel
theorem dX6_byteAt_19 : decode cX6_byteAt 19 = .ok (.getfield 9, 3) := by decide +kernel
theorem dX6_byteAt_22 : decode cX6_byteAt 22 = .ok (.iload_n 1, 1) := by decide +kernel
theorem dX6_byteAt_23 : decode cX6_byteAt 23 = .ok (.iaload, 1) := by decide +kernel
theorem dX6_byteAt_24 : decode cX6_byteAt 24 = .ok (.goto 4, 3) := by decide +kernel
theorem dX6_byteAt_27 : decode cX6_byteAt 27 = .ok (.iconst (-1), 1) := by decide +kernel
theorem dX6_byteAt_28 : decode cX6_byteAt 28 = .ok (.ireturn, 1) := by decide +kernel
theorem dX6_isWord_0 : decode cX6_isWord 0 = .ok (.aload_n 0, 1) := by decide +kernel
theorem dX6_isWord_1 : decode cX6_isWord 1 = .ok (.getfield 19, 3) := by decide +kernel
theorem dX6_isWord_4 : decode cX6_isWord 4 = .ok (.iconst 1, 1) := by decide +kernel
theorem dX6_isWord_5 : decode cX6_isWord 5 = .ok (.if_icmp .ne 19, 3) := by decide +kernel
theorem dX6_isWord_8 : decode cX6_isWord 8 = .ok (.aload_n 0, 1) := by decide +kernel
theorem dX6_isWord_9 : decode cX6_isWord 9 = .ok (.getfield 25, 3) := by decide +kernel
theorem dX6_isWord_12 : decode cX6_isWord 12 = .ok (.aload_n 0, 1) := by decide +kernel
theorem dX6_isWord_13 : decode cX6_isWord 13 = .ok (.getfield 22, 3) := by decide +kernel
theorem dX6_isWord_16 : decode cX6_isWord 16 = .ok (.isub, 1) := by decide +kernel
theorem dX6_isWord_17 : decode cX6_isWord 17 = .ok (.aload_n 1, 1) := by decide +kernel
theorem dX6_isWord_18 : decode cX6_isWord 18 = .ok (.invokevirtual 47, 3) := by decide +kernel
theorem dX6_isWord_21 : decode cX6_isWord 21 = .ok (.if_icmp .eq 5, 3) := by decide +kernel
theorem dX6_isWord_24 : decode cX6_isWord 24 = .ok (.iconst 0, 1) := by decide +kernel
theorem dX6_isWord_25 : decode cX6_isWord 25 = .ok (.ireturn, 1) := by decide +kernel
theorem dX6_isWord_26 : decode cX6_isWord 26 = .ok (.iconst 0, 1) := by decide +kernel
theorem dX6_isWord_27 : decode cX6_isWord 27 = .ok (.istore_n 2, 1) := by decide +kernel
theorem dX6_isWord_28 : decode cX6_isWord 28 = .ok (.iload_n 2, 1) := by decide +kernel
theorem dX6_isWord_29 : decode cX6_isWord 29 = .ok (.aload_n 1, 1) := by decide +kernel
theorem dX6_isWord_30 : decode cX6_isWord 30 = .ok (.invokevirtual 47, 3) := by decide +kernel
theorem dX6_isWord_33 : decode cX6_isWord 33 = .ok (.if_icmp .ge 29, 3) := by decide +kernel
theorem dX6_isWord_36 : decode cX6_isWord 36 = .ok (.aload_n 0, 1) := by decide +kernel
theorem dX6_isWord_37 : decode cX6_isWord 37 = .ok (.aload_n 0, 1) := by decide +kernel
theorem dX6_isWord_38 : decode cX6_isWord 38 = .ok (.getfield 22, 3) := by decide +kernel
theorem dX6_isWord_41 : decode cX6_isWord 41 = .ok (.iload_n 2, 1) := by decide +kernel
theorem dX6_isWord_42 : decode cX6_isWord 42 = .ok (.iadd, 1) := by decide +kernel
theorem dX6_isWord_43 : decode cX6_isWord 43 = .ok (.invokevirtual 34, 3) := by decide +kernel
theorem dX6_isWord_46 : decode cX6_isWord 46 = .ok (.aload_n 1, 1) := by decide +kernel
theorem dX6_isWord_47 : decode cX6_isWord 47 = .ok (.iload_n 2, 1) := by decide +kernel
theorem dX6_isWord_48 : decode cX6_isWord 48 = .ok (.invokevirtual 52, 3) := by decide +kernel
theorem dX6_isWord_51 : decode cX6_isWord 51 = .ok (.if_icmp .eq 5, 3) := by decide +kernel
theorem dX6_isWord_54 : decode cX6_isWord 54 = .ok (.iconst 0, 1) := by decide +kernel
theorem dX6_isWord_55 : decode cX6_isWord 55 = .ok (.ireturn, 1) := by decide +kernel
theorem dX6_isWord_56 : decode cX6_isWord 56 = .ok (.iinc 2 1, 3) := by decide +kernel
theorem dX6_isWord_59 : decode cX6_isWord 59 = .ok (.goto (-31), 3) := by decide +kernel
theorem dX6_isWord_62 : decode cX6_isWord 62 = .ok (.iconst 1, 1) := by decide +kernel
theorem dX6_isWord_63 : decode cX6_isWord 63 = .ok (.ireturn, 1) := by decide +kernel
theorem dX6_numberUpTo_0 : decode cX6_numberUpTo 0 = .ok (.aload_n 0, 1) := by decide +kernel
theorem dX6_numberUpTo_1 : decode cX6_numberUpTo 1 = .ok (.getfield 19, 3) := by decide +kernel
theorem dX6_numberUpTo_4 : decode cX6_numberUpTo 4 = .ok (.iconst 2, 1) := by decide +kernel
theorem dX6_numberUpTo_5 : decode cX6_numberUpTo 5 = .ok (.if_icmp .ne 18, 3) := by decide +kernel
theorem dX6_numberUpTo_8 : decode cX6_numberUpTo 8 = .ok (.aload_n 0, 1) := by decide +kernel
theorem dX6_numberUpTo_9 : decode cX6_numberUpTo 9 = .ok (.getfield 28, 3) := by decide +kernel
theorem dX6_numberUpTo_12 : decode cX6_numberUpTo 12 = .ok (.iload_n 1, 1) := by decide +kernel
theorem dX6_numberUpTo_13 : decode cX6_numberUpTo 13 = .ok (.if_icmp .gt 10, 3) := by decide +kernel
theorem dX6_numberUpTo_16 : decode cX6_numberUpTo 16 = .ok (.aload_n 0, 1) := by decide +kernel
theorem dX6_numberUpTo_17 : decode cX6_numberUpTo 17 = .ok (.getfield 28, 3) := by decide +kernel
theorem dX6_numberUpTo_20 : decode cX6_numberUpTo 20 = .ok (.goto 4, 3) := by decide +kernel
theorem dX6_numberUpTo_23 : decode cX6_numberUpTo 23 = .ok (.iconst (-1), 1) := by decide +kernel
theorem dX6_numberUpTo_24 : decode cX6_numberUpTo 24 = .ok (.ireturn, 1) := by decide +kernel
theorem dX7_init_0 : decode cX7_init 0 = .ok (.aload_n 0, 1) := by decide +kernel
theorem dX7_init_1 : decode cX7_init 1 = .ok (.invokespecial 3, 3) := by decide +kernel
theorem dX7_init_4 : decode cX7_init 4 = .ok (.aload_n 0, 1) := by decide +kernel
theorem dX7_init_5 : decode cX7_init 5 = .ok (.new 9, 3) := by decide +kernel
theorem dX7_init_8 : decode cX7_init 8 = .ok (.dup, 1) := by decide +kernel
theorem dX7_init_9 : decode cX7_init 9 = .ok (.invokespecial 11, 3) := by decide +kernel
theorem dX7_init_12 : decode cX7_init 12 = .ok (.putfield 12, 3) := by decide +kernel
theorem dX7_init_15 : decode cX7_init 15 = .ok (.aload_n 0, 1) := by decide +kernel
theorem dX7_init_16 : decode cX7_init 16 = .ok (.iconst 3, 1) := by decide +kernel
theorem dX7_init_17 : decode cX7_init 17 = .ok (.newarray .int, 2) := by decide +kernel
theorem dX7_init_19 : decode cX7_init 19 = .ok (.putfield 18, 3) := by decide +kernel
theorem dX7_init_22 : decode cX7_init 22 = .ok (.aload_n 0, 1) := by decide +kernel
theorem dX7_init_23 : decode cX7_init 23 = .ok (.iconst 3, 1) := by decide +kernel
theorem dX7_init_24 : decode cX7_init 24 = .ok (.newarray .int, 2) := by decide +kernel
theorem dX7_init_26 : decode cX7_init 26 = .ok (.putfield 22, 3) := by decide +kernel
theorem dX7_init_29 : decode cX7_init 29 = .ok (.aload_n 0, 1) := by decide +kernel
theorem dX7_init_30 : decode cX7_init 30 = .ok (.iconst 3, 1) := by decide +kernel
theorem dX7_init_31 : decode cX7_init 31 = .ok (.newarray .int, 2) := by decide +kernel
theorem dX7_init_33 : decode cX7_init 33 = .ok (.putfield 25, 3) := by decide +kernel
theorem dX7_init_36 : decode cX7_init 36 = .ok (.aload_n 0, 1) := by decide +kernel
theorem dX7_init_37 : decode cX7_init 37 = .ok (.iconst (-1), 1) := by decide +kernel
theorem dX7_init_38 : decode cX7_init 38 = .ok (.putfield 28, 3) := by decide +kernel
theorem dX7_init_41 : decode cX7_init 41 = .ok (.return_, 1) := by decide +kernel
theorem dX7_find_0 : decode cX7_find 0 = .ok (.aload_n 0, 1) := by decide +kernel
theorem dX7_find_1 : decode cX7_find 1 = .ok (.iload_n 2, 1) := by decide +kernel
theorem dX7_find_2 : decode cX7_find 2 = .ok (.invokevirtual 32, 3) := by decide +kernel
theorem dX7_find_5 : decode cX7_find 5 = .ok (.aload_n 0, 1) := by decide +kernel
theorem dX7_find_6 : decode cX7_find 6 = .ok (.iconst (-1), 1) := by decide +kernel
theorem dX7_find_7 : decode cX7_find 7 = .ok (.putfield 28, 3) := by decide +kernel
theorem dX7_find_10 : decode cX7_find 10 = .ok (.iconst 0, 1) := by decide +kernel
theorem dX7_find_11 : decode cX7_find 11 = .ok (.istore_n 3, 1) := by decide +kernel
theorem dX7_find_12 : decode cX7_find 12 = .ok (.iload_n 3, 1) := by decide +kernel
theorem dX7_find_13 : decode cX7_find 13 = .ok (.iconst 3, 1) := by decide +kernel
theorem dX7_find_14 : decode cX7_find 14 = .ok (.if_icmp .ge 32, 3) := by decide +kernel
theorem dX7_find_17 : decode cX7_find 17 = .ok (.iconst 0, 1) := by decide +kernel
theorem dX7_find_18 : decode cX7_find 18 = .ok (.istore 4, 2) := by decide +kernel
theorem dX7_find_20 : decode cX7_find 20 = .ok (.iload 4, 2) := by decide +kernel
theorem dX7_find_22 : decode cX7_find 22 = .ok (.iconst 3, 1) := by decide +kernel
theorem dX7_find_23 : decode cX7_find 23 = .ok (.if_icmp .ge 17, 3) := by decide +kernel
theorem dX7_find_26 : decode cX7_find 26 = .ok (.aload_n 0, 1) := by decide +kernel
theorem dX7_find_27 : decode cX7_find 27 = .ok (.aload_n 1, 1) := by decide +kernel
theorem dX7_find_28 : decode cX7_find 28 = .ok (.iload_n 3, 1) := by decide +kernel
theorem dX7_find_29 : decode cX7_find 29 = .ok (.iload 4, 2) := by decide +kernel
theorem dX7_find_31 : decode cX7_find 31 = .ok (.invokevirtual 36, 3) := by decide +kernel
theorem dX7_find_34 : decode cX7_find 34 = .ok (.iinc 4 1, 3) := by decide +kernel
theorem dX7_find_37 : decode cX7_find 37 = .ok (.goto (-17), 3) := by decide +kernel
theorem dX7_find_40 : decode cX7_find 40 = .ok (.iinc 3 1, 3) := by decide +kernel
theorem dX7_find_43 : decode cX7_find 43 = .ok (.goto (-31), 3) := by decide +kernel
theorem dX7_find_46 : decode cX7_find 46 = .ok (.return_, 1) := by decide +kernel
theorem dX7_listThree_0 : decode cX7_listThree 0 = .ok (.iconst 0, 1) := by decide +kernel
theorem dX7_listThree_1 : decode cX7_listThree 1 = .ok (.istore_n 2, 1) := by decide +kernel
theorem dX7_listThree_2 : decode cX7_listThree 2 = .ok (.iconst 0, 1) := by decide +kernel
theorem dX7_listThree_3 : decode cX7_listThree 3 = .ok (.istore_n 3, 1) := by decide +kernel
theorem dX7_listThree_4 : decode cX7_listThree 4 = .ok (.iload_n 3, 1) := by decide +kernel
theorem dX7_listThree_5 : decode cX7_listThree 5 = .ok (.bipush 6, 2) := by decide +kernel
theorem dX7_listThree_7 : decode cX7_listThree 7 = .ok (.if_icmp .ge 32, 3) := by decide +kernel
theorem dX7_listThree_10 : decode cX7_listThree 10 = .ok (.iload_n 2, 1) := by decide +kernel
theorem dX7_listThree_11 : decode cX7_listThree 11 = .ok (.iconst 3, 1) := by decide +kernel
theorem dX7_listThree_12 : decode cX7_listThree 12 = .ok (.if_icmp .ge 27, 3) := by decide +kernel
theorem dX7_listThree_15 : decode cX7_listThree 15 = .ok (.iload_n 1, 1) := by decide +kernel
theorem dX7_listThree_16 : decode cX7_listThree 16 = .ok (.iconst 1, 1) := by decide +kernel
theorem dX7_listThree_17 : decode cX7_listThree 17 = .ok (.iload_n 3, 1) := by decide +kernel
theorem dX7_listThree_18 : decode cX7_listThree 18 = .ok (.ishl, 1) := by decide +kernel
theorem dX7_listThree_19 : decode cX7_listThree 19 = .ok (.iand, 1) := by decide +kernel
theorem dX7_listThree_20 : decode cX7_listThree 20 = .ok (.ifCond .eq 13, 3) := by decide +kernel
theorem dX7_listThree_23 : decode cX7_listThree 23 = .ok (.aload_n 0, 1) := by decide +kernel
theorem dX7_listThree_24 : decode cX7_listThree 24 = .ok (.getfield 18, 3) := by decide +kernel
theorem dX7_listThree_27 : decode cX7_listThree 27 = .ok (.iload_n 2, 1) := by decide +kernel
theorem dX7_listThree_28 : decode cX7_listThree 28 = .ok (.iload_n 3, 1) := by decide +kernel
theorem dX7_listThree_29 : decode cX7_listThree 29 = .ok (.iastore, 1) := by decide +kernel
theorem dX7_listThree_30 : decode cX7_listThree 30 = .ok (.iinc 2 1, 3) := by decide +kernel
theorem dX7_listThree_33 : decode cX7_listThree 33 = .ok (.iinc 3 1, 3) := by decide +kernel
theorem dX7_listThree_36 : decode cX7_listThree 36 = .ok (.goto (-32), 3) := by decide +kernel
theorem dX7_listThree_39 : decode cX7_listThree 39 = .ok (.return_, 1) := by decide +kernel
theorem dX7_findFrom_0 : decode cX7_findFrom 0 = .ok (.iconst 0, 1) := by decide +kernel
theorem dX7_findFrom_1 : decode cX7_findFrom 1 = .ok (.istore 4, 2) := by decide +kernel
theorem dX7_findFrom_3 : decode cX7_findFrom 3 = .ok (.iload 4, 2) := by decide +kernel
theorem dX7_findFrom_5 : decode cX7_findFrom 5 = .ok (.iconst 3, 1) := by decide +kernel
theorem dX7_findFrom_6 : decode cX7_findFrom 6 = .ok (.if_icmp .ge 95, 3) := by decide +kernel
theorem dX7_findFrom_9 : decode cX7_findFrom 9 = .ok (.iconst 0, 1) := by decide +kernel
theorem dX7_findFrom_10 : decode cX7_findFrom 10 = .ok (.istore 5, 2) := by decide +kernel
theorem dX7_findFrom_12 : decode cX7_findFrom 12 = .ok (.iload 5, 2) := by decide +kernel
theorem dX7_findFrom_14 : decode cX7_findFrom 14 = .ok (.iconst 3, 1) := by decide +kernel
theorem dX7_findFrom_15 : decode cX7_findFrom 15 = .ok (.if_icmp .ge 80, 3) := by decide +kernel
theorem dX7_findFrom_18 : decode cX7_findFrom 18 = .ok (.iload 4, 2) := by decide +kernel
theorem dX7_findFrom_20 : decode cX7_findFrom 20 = .ok (.iload_n 2, 1) := by decide +kernel
theorem dX7_findFrom_21 : decode cX7_findFrom 21 = .ok (.if_icmp .eq 68, 3) := by decide +kernel
theorem dX7_findFrom_24 : decode cX7_findFrom 24 = .ok (.iload 5, 2) := by decide +kernel
theorem dX7_findFrom_26 : decode cX7_findFrom 26 = .ok (.iload_n 3, 1) := by decide +kernel
theorem dX7_findFrom_27 : decode cX7_findFrom 27 = .ok (.if_icmp .eq 62, 3) := by decide +kernel
theorem dX7_findFrom_30 : decode cX7_findFrom 30 = .ok (.aload_n 0, 1) := by decide +kernel
theorem dX7_findFrom_31 : decode cX7_findFrom 31 = .ok (.getfield 12, 3) := by decide +kernel
theorem dX7_findFrom_34 : decode cX7_findFrom 34 = .ok (.aload_n 1, 1) := by decide +kernel
theorem dX7_findFrom_35 : decode cX7_findFrom 35 = .ok (.invokevirtual 40, 3) := by decide +kernel
theorem dX7_findFrom_38 : decode cX7_findFrom 38 = .ok (.aload_n 0, 1) := by decide +kernel
theorem dX7_findFrom_39 : decode cX7_findFrom 39 = .ok (.iconst 0, 1) := by decide +kernel
theorem dX7_findFrom_40 : decode cX7_findFrom 40 = .ok (.iload_n 2, 1) := by decide +kernel
theorem dX7_findFrom_41 : decode cX7_findFrom 41 = .ok (.iload_n 3, 1) := by decide +kernel
theorem dX7_findFrom_42 : decode cX7_findFrom 42 = .ok (.invokevirtual 44, 3) := by decide +kernel
theorem dX7_findFrom_45 : decode cX7_findFrom 45 = .ok (.istore 6, 2) := by decide +kernel
theorem dX7_findFrom_47 : decode cX7_findFrom 47 = .ok (.iload 6, 2) := by decide +kernel
theorem dX7_findFrom_49 : decode cX7_findFrom 49 = .ok (.aload_n 0, 1) := by decide +kernel
theorem dX7_findFrom_50 : decode cX7_findFrom 50 = .ok (.iconst 1, 1) := by decide +kernel
theorem dX7_findFrom_51 : decode cX7_findFrom 51 = .ok (.iload 4, 2) := by decide +kernel
theorem dX7_findFrom_53 : decode cX7_findFrom 53 = .ok (.iload 5, 2) := by decide +kernel
theorem dX7_findFrom_55 : decode cX7_findFrom 55 = .ok (.invokevirtual 44, 3) := by decide +kernel
theorem dX7_findFrom_58 : decode cX7_findFrom 58 = .ok (.iadd, 1) := by decide +kernel
theorem dX7_findFrom_59 : decode cX7_findFrom 59 = .ok (.istore 6, 2) := by decide +kernel
theorem dX7_findFrom_61 : decode cX7_findFrom 61 = .ok (.iload 6, 2) := by decide +kernel
theorem dX7_findFrom_63 : decode cX7_findFrom 63 = .ok (.aload_n 0, 1) := by decide +kernel
theorem dX7_findFrom_64 : decode cX7_findFrom 64 = .ok (.iconst 2, 1) := by decide +kernel
theorem dX7_findFrom_65 : decode cX7_findFrom 65 = .ok (.iconst 3, 1) := by decide +kernel
theorem dX7_findFrom_66 : decode cX7_findFrom 66 = .ok (.iload_n 2, 1) := by decide +kernel
theorem dX7_findFrom_67 : decode cX7_findFrom 67 = .ok (.isub, 1) := by decide +kernel
theorem dX7_findFrom_68 : decode cX7_findFrom 68 = .ok (.iload 4, 2) := by decide +kernel
theorem dX7_findFrom_70 : decode cX7_findFrom 70 = .ok (.isub, 1) := by decide +kernel
theorem dX7_findFrom_71 : decode cX7_findFrom 71 = .ok (.iconst 3, 1) := by decide +kernel
theorem dX7_findFrom_72 : decode cX7_findFrom 72 = .ok (.iload_n 3, 1) := by decide +kernel
theorem dX7_findFrom_73 : decode cX7_findFrom 73 = .ok (.isub, 1) := by decide +kernel
theorem dX7_findFrom_74 : decode cX7_findFrom 74 = .ok (.iload 5, 2) := by decide +kernel
theorem dX7_findFrom_76 : decode cX7_findFrom 76 = .ok (.isub, 1) := by decide +kernel
theorem dX7_findFrom_77 : decode cX7_findFrom 77 = .ok (.invokevirtual 44, 3) := by decide +kernel
theorem dX7_findFrom_80 : decode cX7_findFrom 80 = .ok (.iadd, 1) := by decide +kernel
theorem dX7_findFrom_81 : decode cX7_findFrom 81 = .ok (.istore 6, 2) := by decide +kernel
theorem dX7_findFrom_83 : decode cX7_findFrom 83 = .ok (.aload_n 0, 1) := by decide +kernel
theorem dX7_findFrom_84 : decode cX7_findFrom 84 = .ok (.iload 6, 2) := by decide +kernel
theorem dX7_findFrom_86 : decode cX7_findFrom 86 = .ok (.invokevirtual 48, 3) := by decide +kernel
theorem dX7_findFrom_89 : decode cX7_findFrom 89 = .ok (.iinc 5 1, 3) := by decide +kernel
theorem dX7_findFrom_92 : decode cX7_findFrom 92 = .ok (.goto (-80), 3) := by decide +kernel
theorem dX7_findFrom_95 : decode cX7_findFrom 95 = .ok (.iinc 4 1, 3) := by decide +kernel
theorem dX7_findFrom_98 : decode cX7_findFrom 98 = .ok (.goto (-95), 3) := by decide +kernel
theorem dX7_findFrom_101 : decode cX7_findFrom 101 = .ok (.return_, 1) := by decide +kernel
theorem dX7_takeStep_0 : decode cX7_takeStep 0 = .ok (.aload_n 0, 1) := by decide +kernel
theorem dX7_takeStep_1 : decode cX7_takeStep 1 = .ok (.getfield 18, 3) := by decide +kernel
theorem dX7_takeStep_4 : decode cX7_takeStep 4 = .ok (.iload_n 2, 1) := by decide +kernel
theorem dX7_takeStep_5 : decode cX7_takeStep 5 = .ok (.iaload, 1) := by decide +kernel
theorem dX7_takeStep_6 : decode cX7_takeStep 6 = .ok (.istore 4, 2) := by decide +kernel
theorem dX7_takeStep_8 : decode cX7_takeStep 8 = .ok (.aload_n 0, 1) := by decide +kernel
theorem dX7_takeStep_9 : decode cX7_takeStep 9 = .ok (.getfield 12, 3) := by decide +kernel
theorem dX7_takeStep_12 : decode cX7_takeStep 12 = .ok (.iload 4, 2) := by decide +kernel
theorem dX7_takeStep_14 : decode cX7_takeStep 14 = .ok (.iload_n 3, 1) := by decide +kernel
theorem dX7_takeStep_15 : decode cX7_takeStep 15 = .ok (.invokevirtual 51, 3) := by decide +kernel
theorem dX7_takeStep_18 : decode cX7_takeStep 18 = .ok (.istore 5, 2) := by decide +kernel
theorem dX7_takeStep_20 : decode cX7_takeStep 20 = .ok (.aload_n 0, 1) := by decide +kernel
theorem dX7_takeStep_21 : decode cX7_takeStep 21 = .ok (.getfield 12, 3) := by decide +kernel
theorem dX7_takeStep_24 : decode cX7_takeStep 24 = .ok (.iload 4, 2) := by decide +kernel
theorem dX7_takeStep_26 : decode cX7_takeStep 26 = .ok (.iload_n 3, 1) := by decide +kernel
theorem dX7_takeStep_27 : decode cX7_takeStep 27 = .ok (.invokevirtual 55, 3) := by decide +kernel
theorem dX7_takeStep_30 : decode cX7_takeStep 30 = .ok (.aload_n 0, 1) := by decide +kernel
theorem dX7_takeStep_31 : decode cX7_takeStep 31 = .ok (.getfield 22, 3) := by decide +kernel
theorem dX7_takeStep_34 : decode cX7_takeStep 34 = .ok (.iload_n 1, 1) := by decide +kernel
theorem dX7_takeStep_35 : decode cX7_takeStep 35 = .ok (.bipush 10, 2) := by decide +kernel
theorem dX7_takeStep_37 : decode cX7_takeStep 37 = .ok (.iload 4, 2) := by decide +kernel
theorem dX7_takeStep_39 : decode cX7_takeStep 39 = .ok (.imul, 1) := by decide +kernel
theorem dX7_takeStep_40 : decode cX7_takeStep 40 = .ok (.iload_n 3, 1) := by decide +kernel
theorem dX7_takeStep_41 : decode cX7_takeStep 41 = .ok (.iadd, 1) := by decide +kernel
theorem dX7_takeStep_42 : decode cX7_takeStep 42 = .ok (.iastore, 1) := by decide +kernel
theorem dX7_takeStep_43 : decode cX7_takeStep 43 = .ok (.iload 5, 2) := by decide +kernel
theorem dX7_takeStep_45 : decode cX7_takeStep 45 = .ok (.ireturn, 1) := by decide +kernel
theorem dX7_keepIfBetter_0 : decode cX7_keepIfBetter 0 = .ok (.aload_n 0, 1) := by decide +kernel
theorem dX7_keepIfBetter_1 : decode cX7_keepIfBetter 1 = .ok (.getfield 28, 3) := by decide +kernel
theorem dX7_keepIfBetter_4 : decode cX7_keepIfBetter 4 = .ok (.iconst (-1), 1) := by decide +kernel
theorem dX7_keepIfBetter_5 : decode cX7_keepIfBetter 5 = .ok (.if_icmp .eq 11, 3) := by decide +kernel
theorem dX7_keepIfBetter_8 : decode cX7_keepIfBetter 8 = .ok (.iload_n 1, 1) := by decide +kernel
theorem dX7_keepIfBetter_9 : decode cX7_keepIfBetter 9 = .ok (.aload_n 0, 1) := by decide +kernel
theorem dX7_keepIfBetter_10 : decode cX7_keepIfBetter 10 = .ok (.getfield 28, 3) := by decide +kernel
theorem dX7_keepIfBetter_13 : decode cX7_keepIfBetter 13 = .ok (.if_icmp .ge 22, 3) := by decide +kernel
theorem dX7_keepIfBetter_16 : decode cX7_keepIfBetter 16 = .ok (.aload_n 0, 1) := by decide +kernel
theorem dX7_keepIfBetter_17 : decode cX7_keepIfBetter 17 = .ok (.iload_n 1, 1) := by decide +kernel
theorem dX7_keepIfBetter_18 : decode cX7_keepIfBetter 18 = .ok (.putfield 28, 3) := by decide +kernel
theorem dX7_keepIfBetter_21 : decode cX7_keepIfBetter 21 = .ok (.aload_n 0, 1) := by decide +kernel
theorem dX7_keepIfBetter_22 : decode cX7_keepIfBetter 22 = .ok (.getfield 22, 3) := by decide +kernel
theorem dX7_keepIfBetter_25 : decode cX7_keepIfBetter 25 = .ok (.iconst 0, 1) := by decide +kernel
theorem dX7_keepIfBetter_26 : decode cX7_keepIfBetter 26 = .ok (.aload_n 0, 1) := by decide +kernel
theorem dX7_keepIfBetter_27 : decode cX7_keepIfBetter 27 = .ok (.getfield 25, 3) := by decide +kernel
theorem dX7_keepIfBetter_30 : decode cX7_keepIfBetter 30 = .ok (.iconst 0, 1) := by decide +kernel
theorem dX7_keepIfBetter_31 : decode cX7_keepIfBetter 31 = .ok (.iconst 3, 1) := by decide +kernel
theorem dX7_keepIfBetter_32 : decode cX7_keepIfBetter 32 = .ok (.invokestatic 59, 3) := by decide +kernel
theorem dX7_keepIfBetter_35 : decode cX7_keepIfBetter 35 = .ok (.return_, 1) := by decide +kernel
theorem dX8_init_0 : decode cX8_init 0 = .ok (.aload_n 0, 1) := by decide +kernel
theorem dX8_init_1 : decode cX8_init 1 = .ok (.invokespecial 1, 3) := by decide +kernel
theorem dX8_init_4 : decode cX8_init 4 = .ok (.aload_n 0, 1) := by decide +kernel
theorem dX8_init_5 : decode cX8_init 5 = .ok (.new 7, 3) := by decide +kernel
theorem dX8_init_8 : decode cX8_init 8 = .ok (.dup, 1) := by decide +kernel
theorem dX8_init_9 : decode cX8_init 9 = .ok (.invokespecial 9, 3) := by decide +kernel
theorem dX8_init_12 : decode cX8_init 12 = .ok (.putfield 10, 3) := by decide +kernel
theorem dX8_init_15 : decode cX8_init 15 = .ok (.aload_n 0, 1) := by decide +kernel
theorem dX8_init_16 : decode cX8_init 16 = .ok (.new 7, 3) := by decide +kernel
theorem dX8_init_19 : decode cX8_init 19 = .ok (.dup, 1) := by decide +kernel
theorem dX8_init_20 : decode cX8_init 20 = .ok (.invokespecial 9, 3) := by decide +kernel
theorem dX8_init_23 : decode cX8_init 23 = .ok (.putfield 16, 3) := by decide +kernel
theorem dX8_init_26 : decode cX8_init 26 = .ok (.aload_n 0, 1) := by decide +kernel
theorem dX8_init_27 : decode cX8_init 27 = .ok (.new 7, 3) := by decide +kernel
theorem dX8_init_30 : decode cX8_init 30 = .ok (.dup, 1) := by decide +kernel
theorem dX8_init_31 : decode cX8_init 31 = .ok (.invokespecial 9, 3) := by decide +kernel
theorem dX8_init_34 : decode cX8_init 34 = .ok (.putfield 19, 3) := by decide +kernel
theorem dX8_init_37 : decode cX8_init 37 = .ok (.aload_n 0, 1) := by decide +kernel
theorem dX8_init_38 : decode cX8_init 38 = .ok (.new 22, 3) := by decide +kernel
theorem dX8_init_41 : decode cX8_init 41 = .ok (.dup, 1) := by decide +kernel
theorem dX8_init_42 : decode cX8_init 42 = .ok (.invokespecial 24, 3) := by decide +kernel
theorem dX8_init_45 : decode cX8_init 45 = .ok (.putfield 25, 3) := by decide +kernel
theorem dX8_init_48 : decode cX8_init 48 = .ok (.aload_n 0, 1) := by decide +kernel
theorem dX8_init_49 : decode cX8_init 49 = .ok (.new 29, 3) := by decide +kernel
theorem dX8_init_52 : decode cX8_init 52 = .ok (.dup, 1) := by decide +kernel
theorem dX8_init_53 : decode cX8_init 53 = .ok (.invokespecial 31, 3) := by decide +kernel
theorem dX8_init_56 : decode cX8_init 56 = .ok (.putfield 32, 3) := by decide +kernel
theorem dX8_init_59 : decode cX8_init 59 = .ok (.aload_n 0, 1) := by decide +kernel
theorem dX8_init_60 : decode cX8_init 60 = .ok (.iconst 4, 1) := by decide +kernel
theorem dX8_init_61 : decode cX8_init 61 = .ok (.anewarray 36, 3) := by decide +kernel
theorem dX8_init_64 : decode cX8_init 64 = .ok (.putfield 38, 3) := by decide +kernel
theorem dX8_init_67 : decode cX8_init 67 = .ok (.aload_n 0, 1) := by decide +kernel
theorem dX8_init_68 : decode cX8_init 68 = .ok (.bipush 7, 2) := by decide +kernel
theorem dX8_init_70 : decode cX8_init 70 = .ok (.newarray .int, 2) := by decide +kernel
theorem dX8_init_72 : decode cX8_init 72 = .ok (.putfield 42, 3) := by decide +kernel
theorem dX8_init_75 : decode cX8_init 75 = .ok (.aload_n 0, 1) := by decide +kernel
theorem dX8_init_76 : decode cX8_init 76 = .ok (.iconst 0, 1) := by decide +kernel
theorem dX8_init_77 : decode cX8_init 77 = .ok (.putfield 46, 3) := by decide +kernel
theorem dX8_init_80 : decode cX8_init 80 = .ok (.iconst 0, 1) := by decide +kernel
theorem dX8_init_81 : decode cX8_init 81 = .ok (.istore_n 1, 1) := by decide +kernel
theorem dX8_init_82 : decode cX8_init 82 = .ok (.iload_n 1, 1) := by decide +kernel
theorem dX8_init_83 : decode cX8_init 83 = .ok (.iconst 4, 1) := by decide +kernel
theorem dX8_init_84 : decode cX8_init 84 = .ok (.if_icmp .ge 22, 3) := by decide +kernel
theorem dX8_init_87 : decode cX8_init 87 = .ok (.aload_n 0, 1) := by decide +kernel
theorem dX8_init_88 : decode cX8_init 88 = .ok (.getfield 38, 3) := by decide +kernel
theorem dX8_init_91 : decode cX8_init 91 = .ok (.iload_n 1, 1) := by decide +kernel
theorem dX8_init_92 : decode cX8_init 92 = .ok (.new 36, 3) := by decide +kernel
theorem dX8_init_95 : decode cX8_init 95 = .ok (.dup, 1) := by decide +kernel
theorem dX8_init_96 : decode cX8_init 96 = .ok (.invokespecial 50, 3) := by decide +kernel
theorem dX8_init_99 : decode cX8_init 99 = .ok (.aastore, 1) := by decide +kernel
theorem dX8_init_100 : decode cX8_init 100 = .ok (.iinc 1 1, 3) := by decide +kernel
theorem dX8_init_103 : decode cX8_init 103 = .ok (.goto (-21), 3) := by decide +kernel
theorem dX8_init_106 : decode cX8_init 106 = .ok (.return_, 1) := by decide +kernel
theorem dX8_seat_0 : decode cX8_seat 0 = .ok (.iload_n 1, 1) := by decide +kernel
theorem dX8_seat_1 : decode cX8_seat 1 = .ok (.invokestatic 51, 3) := by decide +kernel
theorem dX8_seat_4 : decode cX8_seat 4 = .ok (.ifCond .eq 24, 3) := by decide +kernel
theorem dX8_seat_7 : decode cX8_seat 7 = .ok (.iload_n 2, 1) := by decide +kernel
theorem dX8_seat_8 : decode cX8_seat 8 = .ok (.ifCond .lt 20, 3) := by decide +kernel
theorem dX8_seat_11 : decode cX8_seat 11 = .ok (.iload_n 2, 1) := by decide +kernel
theorem dX8_seat_12 : decode cX8_seat 12 = .ok (.iconst 2, 1) := by decide +kernel
theorem dX8_seat_13 : decode cX8_seat 13 = .ok (.if_icmp .gt 15, 3) := by decide +kernel
theorem dX8_seat_16 : decode cX8_seat 16 = .ok (.iload_n 3, 1) := by decide +kernel
theorem dX8_seat_17 : decode cX8_seat 17 = .ok (.ifCond .lt 11, 3) := by decide +kernel
theorem dX8_seat_20 : decode cX8_seat 20 = .ok (.iload_n 3, 1) := by decide +kernel
theorem dX8_seat_21 : decode cX8_seat 21 = .ok (.iload_n 2, 1) := by decide +kernel
theorem dX8_seat_22 : decode cX8_seat 22 = .ok (.invokestatic 55, 3) := by decide +kernel
theorem dX8_seat_25 : decode cX8_seat 25 = .ok (.if_icmp .le 9, 3) := by decide +kernel
theorem dX8_seat_28 : decode cX8_seat 28 = .ok (.aload_n 0, 1) := by decide +kernel
theorem dX8_seat_29 : decode cX8_seat 29 = .ok (.iconst 0, 1) := by decide +kernel
theorem dX8_seat_30 : decode cX8_seat 30 = .ok (.invokevirtual 61, 3) := by decide +kernel
theorem dX8_seat_33 : decode cX8_seat 33 = .ok (.ireturn, 1) := by decide +kernel
theorem dX8_seat_34 : decode cX8_seat 34 = .ok (.aload_n 0, 1) := by decide +kernel
theorem dX8_seat_35 : decode cX8_seat 35 = .ok (.getfield 10, 3) := by decide +kernel
theorem dX8_seat_38 : decode cX8_seat 38 = .ok (.getfield 64, 3) := by decide +kernel
theorem dX8_seat_41 : decode cX8_seat 41 = .ok (.iload_n 1, 1) := by decide +kernel
theorem dX8_seat_42 : decode cX8_seat 42 = .ok (.aaload, 1) := by decide +kernel
theorem dX8_seat_43 : decode cX8_seat 43 = .ok (.iload_n 2, 1) := by decide +kernel
theorem dX8_seat_44 : decode cX8_seat 44 = .ok (.invokevirtual 68, 3) := by decide +kernel
theorem dX8_seat_47 : decode cX8_seat 47 = .ok (.istore 4, 2) := by decide +kernel
theorem dX8_seat_49 : decode cX8_seat 49 = .ok (.aload_n 0, 1) := by decide +kernel
theorem dX8_seat_50 : decode cX8_seat 50 = .ok (.getfield 10, 3) := by decide +kernel
theorem dX8_seat_53 : decode cX8_seat 53 = .ok (.getfield 64, 3) := by decide +kernel
theorem dX8_seat_56 : decode cX8_seat 56 = .ok (.iload_n 1, 1) := by decide +kernel
theorem dX8_seat_57 : decode cX8_seat 57 = .ok (.aaload, 1) := by decide +kernel
theorem dX8_seat_58 : decode cX8_seat 58 = .ok (.iload_n 2, 1) := by decide +kernel
theorem dX8_seat_59 : decode cX8_seat 59 = .ok (.iload_n 3, 1) := by decide +kernel
theorem dX8_seat_60 : decode cX8_seat 60 = .ok (.invokevirtual 71, 3) := by decide +kernel
theorem dX8_seat_63 : decode cX8_seat 63 = .ok (.iload 4, 2) := by decide +kernel
theorem dX8_seat_65 : decode cX8_seat 65 = .ok (.ireturn, 1) := by decide +kernel
theorem dX8_seatOf_0 : decode cX8_seatOf 0 = .ok (.iload_n 1, 1) := by decide +kernel
theorem dX8_seatOf_1 : decode cX8_seatOf 1 = .ok (.invokestatic 51, 3) := by decide +kernel
theorem dX8_seatOf_4 : decode cX8_seatOf 4 = .ok (.ifCond .eq 12, 3) := by decide +kernel
theorem dX8_seatOf_7 : decode cX8_seatOf 7 = .ok (.iload_n 2, 1) := by decide +kernel
theorem dX8_seatOf_8 : decode cX8_seatOf 8 = .ok (.ifCond .lt 8, 3) := by decide +kernel
theorem dX8_seatOf_11 : decode cX8_seatOf 11 = .ok (.iload_n 2, 1) := by decide +kernel
theorem dX8_seatOf_12 : decode cX8_seatOf 12 = .ok (.iconst 4, 1) := by decide +kernel
theorem dX8_seatOf_13 : decode cX8_seatOf 13 = .ok (.if_icmp .le 9, 3) := by decide +kernel
theorem dX8_seatOf_16 : decode cX8_seatOf 16 = .ok (.aload_n 0, 1) := by decide +kernel
theorem dX8_seatOf_17 : decode cX8_seatOf 17 = .ok (.iconst 0, 1) := by decide +kernel
theorem dX8_seatOf_18 : decode cX8_seatOf 18 = .ok (.invokevirtual 61, 3) := by decide +kernel
theorem dX8_seatOf_21 : decode cX8_seatOf 21 = .ok (.ireturn, 1) := by decide +kernel
theorem dX8_seatOf_22 : decode cX8_seatOf 22 = .ok (.aload_n 0, 1) := by decide +kernel
theorem dX8_seatOf_23 : decode cX8_seatOf 23 = .ok (.getfield 10, 3) := by decide +kernel
theorem dX8_seatOf_26 : decode cX8_seatOf 26 = .ok (.getfield 64, 3) := by decide +kernel
theorem dX8_seatOf_29 : decode cX8_seatOf 29 = .ok (.iload_n 1, 1) := by decide +kernel
theorem dX8_seatOf_30 : decode cX8_seatOf 30 = .ok (.aaload, 1) := by decide +kernel
theorem dX8_seatOf_31 : decode cX8_seatOf 31 = .ok (.iload_n 2, 1) := by decide +kernel
theorem dX8_seatOf_32 : decode cX8_seatOf 32 = .ok (.invokevirtual 68, 3) := by decide +kernel
theorem dX8_seatOf_35 : decode cX8_seatOf 35 = .ok (.ireturn, 1) := by decide +kernel
theorem dX8_rain_0 : decode cX8_rain 0 = .ok (.iload_n 1, 1) := by decide +kernel
theorem dX8_rain_1 : decode cX8_rain 1 = .ok (.ifCond .lt 9, 3) := by decide +kernel
theorem dX8_rain_4 : decode cX8_rain 4 = .ok (.iload_n 1, 1) := by decide +kernel
theorem dX8_rain_5 : decode cX8_rain 5 = .ok (.bipush 9, 2) := by decide +kernel
theorem dX8_rain_7 : decode cX8_rain 7 = .ok (.if_icmp .le 9, 3) := by decide +kernel
theorem dX8_rain_10 : decode cX8_rain 10 = .ok (.aload_n 0, 1) := by decide +kernel
theorem dX8_rain_11 : decode cX8_rain 11 = .ok (.iconst 0, 1) := by decide +kernel
theorem dX8_rain_12 : decode cX8_rain 12 = .ok (.invokevirtual 61, 3) := by decide +kernel
theorem dX8_rain_15 : decode cX8_rain 15 = .ok (.ireturn, 1) := by decide +kernel
theorem dX8_rain_16 : decode cX8_rain 16 = .ok (.aload_n 0, 1) := by decide +kernel
theorem dX8_rain_17 : decode cX8_rain 17 = .ok (.getfield 10, 3) := by decide +kernel
theorem dX8_rain_20 : decode cX8_rain 20 = .ok (.getfield 75, 3) := by decide +kernel
theorem dX8_rain_23 : decode cX8_rain 23 = .ok (.istore_n 2, 1) := by decide +kernel
theorem dX8_rain_24 : decode cX8_rain 24 = .ok (.aload_n 0, 1) := by decide +kernel
theorem dX8_rain_25 : decode cX8_rain 25 = .ok (.getfield 10, 3) := by decide +kernel
theorem dX8_rain_28 : decode cX8_rain 28 = .ok (.iload_n 1, 1) := by decide +kernel
theorem dX8_rain_29 : decode cX8_rain 29 = .ok (.putfield 75, 3) := by decide +kernel
theorem dX8_rain_32 : decode cX8_rain 32 = .ok (.iload_n 2, 1) := by decide +kernel
theorem dX8_rain_33 : decode cX8_rain 33 = .ok (.ireturn, 1) := by decide +kernel
theorem dX8_child_0 : decode cX8_child 0 = .ok (.iload_n 1, 1) := by decide +kernel
theorem dX8_child_1 : decode cX8_child 1 = .ok (.invokestatic 79, 3) := by decide +kernel
theorem dX8_child_4 : decode cX8_child 4 = .ok (.ifCond .ne 9, 3) := by decide +kernel
theorem dX8_child_7 : decode cX8_child 7 = .ok (.aload_n 0, 1) := by decide +kernel
theorem dX8_child_8 : decode cX8_child 8 = .ok (.iconst 0, 1) := by decide +kernel
theorem dX8_child_9 : decode cX8_child 9 = .ok (.invokevirtual 61, 3) := by decide +kernel
theorem dX8_child_12 : decode cX8_child 12 = .ok (.ireturn, 1) := by decide +kernel
theorem dX8_child_13 : decode cX8_child 13 = .ok (.aload_n 0, 1) := by decide +kernel
theorem dX8_child_14 : decode cX8_child 14 = .ok (.getfield 10, 3) := by decide +kernel
theorem dX8_child_17 : decode cX8_child 17 = .ok (.invokevirtual 82, 3) := by decide +kernel
theorem dX8_child_20 : decode cX8_child 20 = .ok (.ifCond .eq 9, 3) := by decide +kernel
theorem dX8_child_23 : decode cX8_child 23 = .ok (.aload_n 0, 1) := by decide +kernel
theorem dX8_child_24 : decode cX8_child 24 = .ok (.iconst 1, 1) := by decide +kernel
theorem dX8_child_25 : decode cX8_child 25 = .ok (.invokevirtual 61, 3) := by decide +kernel
theorem dX8_child_28 : decode cX8_child 28 = .ok (.ireturn, 1) := by decide +kernel
theorem dX8_child_29 : decode cX8_child 29 = .ok (.aload_n 0, 1) := by decide +kernel
theorem dX8_child_30 : decode cX8_child 30 = .ok (.getfield 10, 3) := by decide +kernel
theorem dX8_child_33 : decode cX8_child 33 = .ok (.iload_n 1, 1) := by decide +kernel
theorem dX8_child_34 : decode cX8_child 34 = .ok (.invokevirtual 86, 3) := by decide +kernel
theorem dX8_child_37 : decode cX8_child 37 = .ok (.ireturn, 1) := by decide +kernel
theorem dX8_of_0 : decode cX8_of 0 = .ok (.aload_n 0, 1) := by decide +kernel
theorem dX8_of_1 : decode cX8_of 1 = .ok (.getfield 10, 3) := by decide +kernel
theorem dX8_of_4 : decode cX8_of 4 = .ok (.iload_n 1, 1) := by decide +kernel
theorem dX8_of_5 : decode cX8_of 5 = .ok (.invokevirtual 89, 3) := by decide +kernel
theorem dX8_of_8 : decode cX8_of 8 = .ok (.ifCond .eq 13, 3) := by decide +kernel
theorem dX8_of_11 : decode cX8_of 11 = .ok (.iload_n 2, 1) := by decide +kernel
theorem dX8_of_12 : decode cX8_of 12 = .ok (.ifCond .lt 9, 3) := by decide +kernel
theorem dX8_of_15 : decode cX8_of 15 = .ok (.iload_n 2, 1) := by decide +kernel
theorem dX8_of_16 : decode cX8_of 16 = .ok (.bipush 7, 2) := by decide +kernel
theorem dX8_of_18 : decode cX8_of 18 = .ok (.if_icmp .le 9, 3) := by decide +kernel
theorem dX8_of_21 : decode cX8_of 21 = .ok (.aload_n 0, 1) := by decide +kernel
theorem dX8_of_22 : decode cX8_of 22 = .ok (.iconst 0, 1) := by decide +kernel
theorem dX8_of_23 : decode cX8_of 23 = .ok (.invokevirtual 61, 3) := by decide +kernel
theorem dX8_of_26 : decode cX8_of 26 = .ok (.ireturn, 1) := by decide +kernel
theorem dX8_of_27 : decode cX8_of 27 = .ok (.iload_n 2, 1) := by decide +kernel
theorem dX8_of_28 : decode cX8_of 28 = .ok (.bipush 7, 2) := by decide +kernel
theorem dX8_of_30 : decode cX8_of 30 = .ok (.if_icmp .ne 20, 3) := by decide +kernel
theorem dX8_of_33 : decode cX8_of 33 = .ok (.aload_n 0, 1) := by decide +kernel
theorem dX8_of_34 : decode cX8_of 34 = .ok (.getfield 10, 3) := by decide +kernel
theorem dX8_of_37 : decode cX8_of 37 = .ok (.aload_n 0, 1) := by decide +kernel
theorem dX8_of_38 : decode cX8_of 38 = .ok (.getfield 10, 3) := by decide +kernel
theorem dX8_of_41 : decode cX8_of 41 = .ok (.getfield 92, 3) := by decide +kernel
theorem dX8_of_44 : decode cX8_of 44 = .ok (.iload_n 1, 1) := by decide +kernel
theorem dX8_of_45 : decode cX8_of 45 = .ok (.aaload, 1) := by decide +kernel
theorem dX8_of_46 : decode cX8_of 46 = .ok (.invokevirtual 96, 3) := by decide +kernel
theorem dX8_of_49 : decode cX8_of 49 = .ok (.ireturn, 1) := by decide +kernel
theorem dX8_of_50 : decode cX8_of 50 = .ok (.aload_n 0, 1) := by decide +kernel
theorem dX8_of_51 : decode cX8_of 51 = .ok (.getfield 10, 3) := by decide +kernel
theorem dX8_of_54 : decode cX8_of 54 = .ok (.getfield 92, 3) := by decide +kernel
theorem dX8_of_57 : decode cX8_of 57 = .ok (.iload_n 1, 1) := by decide +kernel
theorem dX8_of_58 : decode cX8_of 58 = .ok (.aaload, 1) := by decide +kernel
theorem dX8_of_59 : decode cX8_of 59 = .ok (.iload_n 2, 1) := by decide +kernel
theorem dX8_of_60 : decode cX8_of 60 = .ok (.invokevirtual 100, 3) := by decide +kernel
theorem dX8_of_63 : decode cX8_of 63 = .ok (.ireturn, 1) := by decide +kernel
theorem dX8_set_0 : decode cX8_set 0 = .ok (.aload_n 0, 1) := by decide +kernel
theorem dX8_set_1 : decode cX8_set 1 = .ok (.getfield 10, 3) := by decide +kernel
theorem dX8_set_4 : decode cX8_set 4 = .ok (.iload_n 1, 1) := by decide +kernel
theorem dX8_set_5 : decode cX8_set 5 = .ok (.invokevirtual 89, 3) := by decide +kernel
theorem dX8_set_8 : decode cX8_set 8 = .ok (.ifCond .eq 25, 3) := by decide +kernel
theorem dX8_set_11 : decode cX8_set 11 = .ok (.iload_n 2, 1) := by decide +kernel
theorem dX8_set_12 : decode cX8_set 12 = .ok (.iconst 1, 1) := by decide +kernel
theorem dX8_set_13 : decode cX8_set 13 = .ok (.if_icmp .lt 20, 3) := by decide +kernel
theorem dX8_set_16 : decode cX8_set 16 = .ok (.iload_n 2, 1) := by decide +kernel
theorem dX8_set_17 : decode cX8_set 17 = .ok (.iconst 4, 1) := by decide +kernel
theorem dX8_set_18 : decode cX8_set 18 = .ok (.if_icmp .gt 15, 3) := by decide +kernel
theorem dX8_set_21 : decode cX8_set 21 = .ok (.iload_n 3, 1) := by decide +kernel
theorem dX8_set_22 : decode cX8_set 22 = .ok (.ifCond .lt 11, 3) := by decide +kernel
theorem dX8_set_25 : decode cX8_set 25 = .ok (.iload_n 3, 1) := by decide +kernel
theorem dX8_set_26 : decode cX8_set 26 = .ok (.iload_n 2, 1) := by decide +kernel
theorem dX8_set_27 : decode cX8_set 27 = .ok (.invokestatic 103, 3) := by decide +kernel
theorem dX8_set_30 : decode cX8_set 30 = .ok (.if_icmp .le 9, 3) := by decide +kernel
theorem dX8_set_33 : decode cX8_set 33 = .ok (.aload_n 0, 1) := by decide +kernel
theorem dX8_set_34 : decode cX8_set 34 = .ok (.iconst 0, 1) := by decide +kernel
theorem dX8_set_35 : decode cX8_set 35 = .ok (.invokevirtual 61, 3) := by decide +kernel
theorem dX8_set_38 : decode cX8_set 38 = .ok (.ireturn, 1) := by decide +kernel
theorem dX8_set_39 : decode cX8_set 39 = .ok (.aload_n 0, 1) := by decide +kernel
theorem dX8_set_40 : decode cX8_set 40 = .ok (.getfield 10, 3) := by decide +kernel
theorem dX8_set_43 : decode cX8_set 43 = .ok (.getfield 92, 3) := by decide +kernel
theorem dX8_set_46 : decode cX8_set 46 = .ok (.iload_n 1, 1) := by decide +kernel
theorem dX8_set_47 : decode cX8_set 47 = .ok (.aaload, 1) := by decide +kernel
theorem dX8_set_48 : decode cX8_set 48 = .ok (.iload_n 2, 1) := by decide +kernel
theorem dX8_set_49 : decode cX8_set 49 = .ok (.invokevirtual 100, 3) := by decide +kernel
theorem dX8_set_52 : decode cX8_set 52 = .ok (.istore 4, 2) := by decide +kernel
theorem dX8_set_54 : decode cX8_set 54 = .ok (.aload_n 0, 1) := by decide +kernel
theorem dX8_set_55 : decode cX8_set 55 = .ok (.getfield 10, 3) := by decide +kernel
theorem dX8_set_58 : decode cX8_set 58 = .ok (.getfield 92, 3) := by decide +kernel
theorem dX8_set_61 : decode cX8_set 61 = .ok (.iload_n 1, 1) := by decide +kernel
theorem dX8_set_62 : decode cX8_set 62 = .ok (.aaload, 1) := by decide +kernel
theorem dX8_set_63 : decode cX8_set 63 = .ok (.iload_n 2, 1) := by decide +kernel
theorem dX8_set_64 : decode cX8_set 64 = .ok (.iload_n 3, 1) := by decide +kernel
theorem dX8_set_65 : decode cX8_set 65 = .ok (.invokevirtual 104, 3) := by decide +kernel
theorem dX8_set_68 : decode cX8_set 68 = .ok (.iload 4, 2) := by decide +kernel
theorem dX8_set_70 : decode cX8_set 70 = .ok (.ireturn, 1) := by decide +kernel
theorem dX8_turn_0 : decode cX8_turn 0 = .ok (.aload_n 0, 1) := by decide +kernel
theorem dX8_turn_1 : decode cX8_turn 1 = .ok (.getfield 10, 3) := by decide +kernel
theorem dX8_turn_4 : decode cX8_turn 4 = .ok (.iload_n 1, 1) := by decide +kernel
theorem dX8_turn_5 : decode cX8_turn 5 = .ok (.invokevirtual 89, 3) := by decide +kernel
theorem dX8_turn_8 : decode cX8_turn 8 = .ok (.ifCond .eq 10, 3) := by decide +kernel
theorem dX8_turn_11 : decode cX8_turn 11 = .ok (.iload_n 2, 1) := by decide +kernel
theorem dX8_turn_12 : decode cX8_turn 12 = .ok (.invokestatic 79, 3) := by decide +kernel
theorem dX8_turn_15 : decode cX8_turn 15 = .ok (.ifCond .ne 9, 3) := by decide +kernel
theorem dX8_turn_18 : decode cX8_turn 18 = .ok (.aload_n 0, 1) := by decide +kernel
theorem dX8_turn_19 : decode cX8_turn 19 = .ok (.iconst 0, 1) := by decide +kernel
theorem dX8_turn_20 : decode cX8_turn 20 = .ok (.invokevirtual 61, 3) := by decide +kernel
theorem dX8_turn_23 : decode cX8_turn 23 = .ok (.ireturn, 1) := by decide +kernel
theorem dX8_turn_24 : decode cX8_turn 24 = .ok (.aload_n 0, 1) := by decide +kernel
theorem dX8_turn_25 : decode cX8_turn 25 = .ok (.getfield 10, 3) := by decide +kernel
theorem dX8_turn_28 : decode cX8_turn 28 = .ok (.getfield 92, 3) := by decide +kernel
theorem dX8_turn_31 : decode cX8_turn 31 = .ok (.iload_n 1, 1) := by decide +kernel
theorem dX8_turn_32 : decode cX8_turn 32 = .ok (.aaload, 1) := by decide +kernel
theorem dX8_turn_33 : decode cX8_turn 33 = .ok (.getfield 105, 3) := by decide +kernel
theorem dX8_turn_36 : decode cX8_turn 36 = .ok (.istore_n 3, 1) := by decide +kernel
theorem dX8_turn_37 : decode cX8_turn 37 = .ok (.aload_n 0, 1) := by decide +kernel
theorem dX8_turn_38 : decode cX8_turn 38 = .ok (.getfield 10, 3) := by decide +kernel
theorem dX8_turn_41 : decode cX8_turn 41 = .ok (.getfield 92, 3) := by decide +kernel
theorem dX8_turn_44 : decode cX8_turn 44 = .ok (.iload_n 1, 1) := by decide +kernel
theorem dX8_turn_45 : decode cX8_turn 45 = .ok (.aaload, 1) := by decide +kernel
theorem dX8_turn_46 : decode cX8_turn 46 = .ok (.iload_n 2, 1) := by decide +kernel
theorem dX8_turn_47 : decode cX8_turn 47 = .ok (.putfield 105, 3) := by decide +kernel
theorem dX8_turn_50 : decode cX8_turn 50 = .ok (.iload_n 3, 1) := by decide +kernel
theorem dX8_turn_51 : decode cX8_turn 51 = .ok (.ireturn, 1) := by decide +kernel
theorem dX8_as_0 : decode cX8_as 0 = .ok (.aload_n 0, 1) := by decide +kernel
theorem dX8_as_1 : decode cX8_as 1 = .ok (.getfield 10, 3) := by decide +kernel
theorem dX8_as_4 : decode cX8_as 4 = .ok (.iload_n 1, 1) := by decide +kernel
theorem dX8_as_5 : decode cX8_as 5 = .ok (.invokevirtual 89, 3) := by decide +kernel
theorem dX8_as_8 : decode cX8_as 8 = .ok (.ifCond .eq 10, 3) := by decide +kernel
theorem dX8_as_11 : decode cX8_as 11 = .ok (.iload_n 2, 1) := by decide +kernel
theorem dX8_as_12 : decode cX8_as 12 = .ok (.invokestatic 79, 3) := by decide +kernel
theorem dX8_as_15 : decode cX8_as 15 = .ok (.ifCond .ne 9, 3) := by decide +kernel
theorem dX8_as_18 : decode cX8_as 18 = .ok (.aload_n 0, 1) := by decide +kernel
theorem dX8_as_19 : decode cX8_as 19 = .ok (.iconst 0, 1) := by decide +kernel
theorem dX8_as_20 : decode cX8_as 20 = .ok (.invokevirtual 61, 3) := by decide +kernel
theorem dX8_as_23 : decode cX8_as 23 = .ok (.ireturn, 1) := by decide +kernel
theorem dX8_as_24 : decode cX8_as 24 = .ok (.aload_n 0, 1) := by decide +kernel
theorem dX8_as_25 : decode cX8_as 25 = .ok (.getfield 10, 3) := by decide +kernel
theorem dX8_as_28 : decode cX8_as 28 = .ok (.getfield 92, 3) := by decide +kernel
theorem dX8_as_31 : decode cX8_as 31 = .ok (.iload_n 1, 1) := by decide +kernel
theorem dX8_as_32 : decode cX8_as 32 = .ok (.aaload, 1) := by decide +kernel
theorem dX8_as_33 : decode cX8_as 33 = .ok (.getfield 105, 3) := by decide +kernel
theorem dX8_as_36 : decode cX8_as 36 = .ok (.iload_n 2, 1) := by decide +kernel
theorem dX8_as_37 : decode cX8_as 37 = .ok (.invokestatic 108, 3) := by decide +kernel
theorem dX8_as_40 : decode cX8_as 40 = .ok (.ifCond .ne 9, 3) := by decide +kernel
theorem dX8_as_43 : decode cX8_as 43 = .ok (.aload_n 0, 1) := by decide +kernel
theorem dX8_as_44 : decode cX8_as 44 = .ok (.iconst 2, 1) := by decide +kernel
theorem dX8_as_45 : decode cX8_as 45 = .ok (.invokevirtual 61, 3) := by decide +kernel
theorem dX8_as_48 : decode cX8_as 48 = .ok (.ireturn, 1) := by decide +kernel
theorem dX8_as_49 : decode cX8_as 49 = .ok (.aload_n 0, 1) := by decide +kernel
theorem dX8_as_50 : decode cX8_as 50 = .ok (.getfield 10, 3) := by decide +kernel
theorem dX8_as_53 : decode cX8_as 53 = .ok (.getfield 92, 3) := by decide +kernel
theorem dX8_as_56 : decode cX8_as 56 = .ok (.iload_n 1, 1) := by decide +kernel
theorem dX8_as_57 : decode cX8_as 57 = .ok (.aaload, 1) := by decide +kernel
theorem dX8_as_58 : decode cX8_as 58 = .ok (.getfield 114, 3) := by decide +kernel
theorem dX8_as_61 : decode cX8_as 61 = .ok (.ireturn, 1) := by decide +kernel
theorem dX8_seconds_0 : decode cX8_seconds 0 = .ok (.aload_n 0, 1) := by decide +kernel
theorem dX8_seconds_1 : decode cX8_seconds 1 = .ok (.getfield 10, 3) := by decide +kernel
theorem dX8_seconds_4 : decode cX8_seconds 4 = .ok (.iload_n 1, 1) := by decide +kernel
theorem dX8_seconds_5 : decode cX8_seconds 5 = .ok (.invokevirtual 89, 3) := by decide +kernel
theorem dX8_seconds_8 : decode cX8_seconds 8 = .ok (.ifCond .eq 10, 3) := by decide +kernel
theorem dX8_seconds_11 : decode cX8_seconds 11 = .ok (.iload_n 2, 1) := by decide +kernel
theorem dX8_seconds_12 : decode cX8_seconds 12 = .ok (.invokestatic 51, 3) := by decide +kernel
theorem dX8_seconds_15 : decode cX8_seconds 15 = .ok (.ifCond .ne 9, 3) := by decide +kernel
theorem dX8_seconds_18 : decode cX8_seconds 18 = .ok (.aload_n 0, 1) := by decide +kernel
theorem dX8_seconds_19 : decode cX8_seconds 19 = .ok (.iconst 0, 1) := by decide +kernel
theorem dX8_seconds_20 : decode cX8_seconds 20 = .ok (.invokevirtual 61, 3) := by decide +kernel
theorem dX8_seconds_23 : decode cX8_seconds 23 = .ok (.ireturn, 1) := by decide +kernel
theorem dX8_seconds_24 : decode cX8_seconds 24 = .ok (.aload_n 0, 1) := by decide +kernel
theorem dX8_seconds_25 : decode cX8_seconds 25 = .ok (.getfield 10, 3) := by decide +kernel
theorem dX8_seconds_28 : decode cX8_seconds 28 = .ok (.iload_n 1, 1) := by decide +kernel
theorem dX8_seconds_29 : decode cX8_seconds 29 = .ok (.iload_n 2, 1) := by decide +kernel
theorem dX8_seconds_30 : decode cX8_seconds 30 = .ok (.invokevirtual 117, 3) := by decide +kernel
theorem dX8_seconds_33 : decode cX8_seconds 33 = .ok (.ireturn, 1) := by decide +kernel
theorem dX8_snug_0 : decode cX8_snug 0 = .ok (.aload_n 0, 1) := by decide +kernel
theorem dX8_snug_1 : decode cX8_snug 1 = .ok (.getfield 10, 3) := by decide +kernel
theorem dX8_snug_4 : decode cX8_snug 4 = .ok (.iload_n 1, 1) := by decide +kernel
theorem dX8_snug_5 : decode cX8_snug 5 = .ok (.invokevirtual 89, 3) := by decide +kernel
theorem dX8_snug_8 : decode cX8_snug 8 = .ok (.ifCond .eq 10, 3) := by decide +kernel
theorem dX8_snug_11 : decode cX8_snug 11 = .ok (.iload_n 2, 1) := by decide +kernel
theorem dX8_snug_12 : decode cX8_snug 12 = .ok (.invokestatic 51, 3) := by decide +kernel
theorem dX8_snug_15 : decode cX8_snug 15 = .ok (.ifCond .ne 9, 3) := by decide +kernel
theorem dX8_snug_18 : decode cX8_snug 18 = .ok (.aload_n 0, 1) := by decide +kernel
theorem dX8_snug_19 : decode cX8_snug 19 = .ok (.iconst 0, 1) := by decide +kernel
theorem dX8_snug_20 : decode cX8_snug 20 = .ok (.invokevirtual 61, 3) := by decide +kernel
theorem dX8_snug_23 : decode cX8_snug 23 = .ok (.ireturn, 1) := by decide +kernel
theorem dX8_snug_24 : decode cX8_snug 24 = .ok (.aload_n 0, 1) := by decide +kernel
theorem dX8_snug_25 : decode cX8_snug 25 = .ok (.getfield 10, 3) := by decide +kernel
theorem dX8_snug_28 : decode cX8_snug 28 = .ok (.iload_n 1, 1) := by decide +kernel
theorem dX8_snug_29 : decode cX8_snug 29 = .ok (.iload_n 2, 1) := by decide +kernel
theorem dX8_snug_30 : decode cX8_snug 30 = .ok (.invokevirtual 121, 3) := by decide +kernel
theorem dX8_snug_33 : decode cX8_snug 33 = .ok (.ireturn, 1) := by decide +kernel
theorem dX8_click_0 : decode cX8_click 0 = .ok (.aload_n 0, 1) := by decide +kernel
theorem dX8_click_1 : decode cX8_click 1 = .ok (.getfield 10, 3) := by decide +kernel
theorem dX8_click_4 : decode cX8_click 4 = .ok (.iload_n 1, 1) := by decide +kernel
theorem dX8_click_5 : decode cX8_click 5 = .ok (.invokevirtual 89, 3) := by decide +kernel
theorem dX8_click_8 : decode cX8_click 8 = .ok (.ifCond .eq 10, 3) := by decide +kernel
theorem dX8_click_11 : decode cX8_click 11 = .ok (.iload_n 2, 1) := by decide +kernel
theorem dX8_click_12 : decode cX8_click 12 = .ok (.invokestatic 51, 3) := by decide +kernel
theorem dX8_click_15 : decode cX8_click 15 = .ok (.ifCond .ne 9, 3) := by decide +kernel
theorem dX8_click_18 : decode cX8_click 18 = .ok (.aload_n 0, 1) := by decide +kernel
theorem dX8_click_19 : decode cX8_click 19 = .ok (.iconst 0, 1) := by decide +kernel
theorem dX8_click_20 : decode cX8_click 20 = .ok (.invokevirtual 61, 3) := by decide +kernel
theorem dX8_click_23 : decode cX8_click 23 = .ok (.ireturn, 1) := by decide +kernel
theorem dX8_click_24 : decode cX8_click 24 = .ok (.aload_n 0, 1) := by decide +kernel
theorem dX8_click_25 : decode cX8_click 25 = .ok (.getfield 10, 3) := by decide +kernel
theorem dX8_click_28 : decode cX8_click 28 = .ok (.getfield 92, 3) := by decide +kernel
theorem dX8_click_31 : decode cX8_click 31 = .ok (.iload_n 1, 1) := by decide +kernel
theorem dX8_click_32 : decode cX8_click 32 = .ok (.aaload, 1) := by decide +kernel
theorem dX8_click_33 : decode cX8_click 33 = .ok (.invokevirtual 124, 3) := by decide +kernel
theorem dX8_click_36 : decode cX8_click 36 = .ok (.ifCond .ne 18, 3) := by decide +kernel
theorem dX8_click_39 : decode cX8_click 39 = .ok (.aload_n 0, 1) := by decide +kernel
theorem dX8_click_40 : decode cX8_click 40 = .ok (.getfield 10, 3) := by decide +kernel
theorem dX8_click_43 : decode cX8_click 43 = .ok (.getfield 64, 3) := by decide +kernel
theorem dX8_click_46 : decode cX8_click 46 = .ok (.iload_n 2, 1) := by decide +kernel
theorem dX8_click_47 : decode cX8_click 47 = .ok (.aaload, 1) := by decide +kernel
theorem dX8_click_48 : decode cX8_click 48 = .ok (.invokevirtual 127, 3) := by decide +kernel
theorem dX8_click_51 : decode cX8_click 51 = .ok (.ifCond .eq 9, 3) := by decide +kernel
theorem dX8_click_54 : decode cX8_click 54 = .ok (.aload_n 0, 1) := by decide +kernel
theorem dX8_click_55 : decode cX8_click 55 = .ok (.iconst 4, 1) := by decide +kernel
theorem dX8_click_56 : decode cX8_click 56 = .ok (.invokevirtual 61, 3) := by decide +kernel
theorem dX8_click_59 : decode cX8_click 59 = .ok (.ireturn, 1) := by decide +kernel
theorem dX8_click_60 : decode cX8_click 60 = .ok (.aload_n 0, 1) := by decide +kernel
theorem dX8_click_61 : decode cX8_click 61 = .ok (.getfield 10, 3) := by decide +kernel
theorem dX8_click_64 : decode cX8_click 64 = .ok (.iload_n 1, 1) := by decide +kernel
theorem dX8_click_65 : decode cX8_click 65 = .ok (.iload_n 2, 1) := by decide +kernel
theorem dX8_click_66 : decode cX8_click 66 = .ok (.invokevirtual 130, 3) := by decide +kernel
theorem dX8_click_69 : decode cX8_click 69 = .ok (.aload_n 0, 1) := by decide +kernel
theorem dX8_click_70 : decode cX8_click 70 = .ok (.getfield 10, 3) := by decide +kernel
theorem dX8_click_73 : decode cX8_click 73 = .ok (.getfield 92, 3) := by decide +kernel
theorem dX8_click_76 : decode cX8_click 76 = .ok (.iload_n 1, 1) := by decide +kernel
theorem dX8_click_77 : decode cX8_click 77 = .ok (.aaload, 1) := by decide +kernel
theorem dX8_click_78 : decode cX8_click 78 = .ok (.getfield 133, 3) := by decide +kernel
theorem dX8_click_81 : decode cX8_click 81 = .ok (.ireturn, 1) := by decide +kernel
theorem dX8_letOut_0 : decode cX8_letOut 0 = .ok (.aload_n 0, 1) := by decide +kernel
theorem dX8_letOut_1 : decode cX8_letOut 1 = .ok (.getfield 10, 3) := by decide +kernel
theorem dX8_letOut_4 : decode cX8_letOut 4 = .ok (.iload_n 1, 1) := by decide +kernel
theorem dX8_letOut_5 : decode cX8_letOut 5 = .ok (.invokevirtual 89, 3) := by decide +kernel
theorem dX8_letOut_8 : decode cX8_letOut 8 = .ok (.ifCond .ne 9, 3) := by decide +kernel
theorem dX8_letOut_11 : decode cX8_letOut 11 = .ok (.aload_n 0, 1) := by decide +kernel
theorem dX8_letOut_12 : decode cX8_letOut 12 = .ok (.iconst 0, 1) := by decide +kernel
theorem dX8_letOut_13 : decode cX8_letOut 13 = .ok (.invokevirtual 61, 3) := by decide +kernel
theorem dX8_letOut_16 : decode cX8_letOut 16 = .ok (.ireturn, 1) := by decide +kernel
theorem dX8_letOut_17 : decode cX8_letOut 17 = .ok (.aload_n 0, 1) := by decide +kernel
theorem dX8_letOut_18 : decode cX8_letOut 18 = .ok (.getfield 10, 3) := by decide +kernel
theorem dX8_letOut_21 : decode cX8_letOut 21 = .ok (.getfield 92, 3) := by decide +kernel
theorem dX8_letOut_24 : decode cX8_letOut 24 = .ok (.iload_n 1, 1) := by decide +kernel
theorem dX8_letOut_25 : decode cX8_letOut 25 = .ok (.aaload, 1) := by decide +kernel
theorem dX8_letOut_26 : decode cX8_letOut 26 = .ok (.getfield 136, 3) := by decide +kernel
theorem dX8_letOut_29 : decode cX8_letOut 29 = .ok (.istore_n 2, 1) := by decide +kernel
theorem dX8_letOut_30 : decode cX8_letOut 30 = .ok (.iload_n 2, 1) := by decide +kernel
theorem dX8_letOut_31 : decode cX8_letOut 31 = .ok (.invokestatic 51, 3) := by decide +kernel
theorem dX8_letOut_34 : decode cX8_letOut 34 = .ok (.ifCond .ne 9, 3) := by decide +kernel
theorem dX8_letOut_37 : decode cX8_letOut 37 = .ok (.aload_n 0, 1) := by decide +kernel
theorem dX8_letOut_38 : decode cX8_letOut 38 = .ok (.iconst 4, 1) := by decide +kernel
theorem dX8_letOut_39 : decode cX8_letOut 39 = .ok (.invokevirtual 61, 3) := by decide +kernel
theorem dX8_letOut_42 : decode cX8_letOut 42 = .ok (.ireturn, 1) := by decide +kernel
theorem dX8_letOut_43 : decode cX8_letOut 43 = .ok (.aload_n 0, 1) := by decide +kernel
theorem dX8_letOut_44 : decode cX8_letOut 44 = .ok (.getfield 10, 3) := by decide +kernel
theorem dX8_letOut_47 : decode cX8_letOut 47 = .ok (.iload_n 2, 1) := by decide +kernel
theorem dX8_letOut_48 : decode cX8_letOut 48 = .ok (.invokevirtual 139, 3) := by decide +kernel
theorem dX8_letOut_51 : decode cX8_letOut 51 = .ok (.iload_n 2, 1) := by decide +kernel
theorem dX8_letOut_52 : decode cX8_letOut 52 = .ok (.ireturn, 1) := by decide +kernel
theorem dX8_bribe_0 : decode cX8_bribe 0 = .ok (.aload_n 0, 1) := by decide +kernel
theorem dX8_bribe_1 : decode cX8_bribe 1 = .ok (.getfield 10, 3) := by decide +kernel
theorem dX8_bribe_4 : decode cX8_bribe 4 = .ok (.iload_n 1, 1) := by decide +kernel
theorem dX8_bribe_5 : decode cX8_bribe 5 = .ok (.invokevirtual 89, 3) := by decide +kernel
theorem dX8_bribe_8 : decode cX8_bribe 8 = .ok (.ifCond .ne 9, 3) := by decide +kernel
theorem dX8_bribe_11 : decode cX8_bribe 11 = .ok (.aload_n 0, 1) := by decide +kernel
theorem dX8_bribe_12 : decode cX8_bribe 12 = .ok (.iconst 0, 1) := by decide +kernel
theorem dX8_bribe_13 : decode cX8_bribe 13 = .ok (.invokevirtual 61, 3) := by decide +kernel
theorem dX8_bribe_16 : decode cX8_bribe 16 = .ok (.ireturn, 1) := by decide +kernel
theorem dX8_bribe_17 : decode cX8_bribe 17 = .ok (.aload_n 0, 1) := by decide +kernel
theorem dX8_bribe_18 : decode cX8_bribe 18 = .ok (.getfield 10, 3) := by decide +kernel
theorem dX8_bribe_21 : decode cX8_bribe 21 = .ok (.iload_n 1, 1) := by decide +kernel
theorem dX8_bribe_22 : decode cX8_bribe 22 = .ok (.invokevirtual 143, 3) := by decide +kernel
theorem dX8_bribe_25 : decode cX8_bribe 25 = .ok (.aload_n 0, 1) := by decide +kernel
theorem dX8_bribe_26 : decode cX8_bribe 26 = .ok (.getfield 10, 3) := by decide +kernel
theorem dX8_bribe_29 : decode cX8_bribe 29 = .ok (.getfield 92, 3) := by decide +kernel
theorem dX8_bribe_32 : decode cX8_bribe 32 = .ok (.iload_n 1, 1) := by decide +kernel
theorem dX8_bribe_33 : decode cX8_bribe 33 = .ok (.aaload, 1) := by decide +kernel
theorem dX8_bribe_34 : decode cX8_bribe 34 = .ok (.getfield 114, 3) := by decide +kernel
theorem dX8_bribe_37 : decode cX8_bribe 37 = .ok (.ireturn, 1) := by decide +kernel
theorem dX8_drive_0 : decode cX8_drive 0 = .ok (.iload_n 1, 1) := by decide +kernel
theorem dX8_drive_1 : decode cX8_drive 1 = .ok (.iconst 1, 1) := by decide +kernel
theorem dX8_drive_2 : decode cX8_drive 2 = .ok (.if_icmp .lt 9, 3) := by decide +kernel
theorem dX8_drive_5 : decode cX8_drive 5 = .ok (.iload_n 1, 1) := by decide +kernel
theorem dX8_drive_6 : decode cX8_drive 6 = .ok (.bipush 60, 2) := by decide +kernel
theorem dX8_drive_8 : decode cX8_drive 8 = .ok (.if_icmp .le 9, 3) := by decide +kernel
theorem dX8_drive_11 : decode cX8_drive 11 = .ok (.aload_n 0, 1) := by decide +kernel
theorem dX8_drive_12 : decode cX8_drive 12 = .ok (.iconst 0, 1) := by decide +kernel
theorem dX8_drive_13 : decode cX8_drive 13 = .ok (.invokevirtual 61, 3) := by decide +kernel
theorem dX8_drive_16 : decode cX8_drive 16 = .ok (.ireturn, 1) := by decide +kernel
theorem dX8_drive_17 : decode cX8_drive 17 = .ok (.aload_n 0, 1) := by decide +kernel
theorem dX8_drive_18 : decode cX8_drive 18 = .ok (.getfield 10, 3) := by decide +kernel
theorem dX8_drive_21 : decode cX8_drive 21 = .ok (.getfield 146, 3) := by decide +kernel
theorem dX8_drive_24 : decode cX8_drive 24 = .ok (.iload_n 1, 1) := by decide +kernel
theorem dX8_drive_25 : decode cX8_drive 25 = .ok (.iadd, 1) := by decide +kernel
theorem dX8_drive_26 : decode cX8_drive 26 = .ok (.sipush 9999, 3) := by decide +kernel
theorem dX8_drive_29 : decode cX8_drive 29 = .ok (.if_icmp .le 9, 3) := by decide +kernel
theorem dX8_drive_32 : decode cX8_drive 32 = .ok (.aload_n 0, 1) := by decide +kernel
theorem dX8_drive_33 : decode cX8_drive 33 = .ok (.iconst 4, 1) := by decide +kernel
theorem dX8_drive_34 : decode cX8_drive 34 = .ok (.invokevirtual 61, 3) := by decide +kernel
theorem dX8_drive_37 : decode cX8_drive 37 = .ok (.ireturn, 1) := by decide +kernel
theorem dX8_drive_38 : decode cX8_drive 38 = .ok (.aload_n 0, 1) := by decide +kernel
theorem dX8_drive_39 : decode cX8_drive 39 = .ok (.getfield 10, 3) := by decide +kernel
theorem dX8_drive_42 : decode cX8_drive 42 = .ok (.iload_n 1, 1) := by decide +kernel
theorem dX8_drive_43 : decode cX8_drive 43 = .ok (.invokevirtual 149, 3) := by decide +kernel
theorem dX8_drive_46 : decode cX8_drive 46 = .ok (.aload_n 0, 1) := by decide +kernel
theorem dX8_drive_47 : decode cX8_drive 47 = .ok (.getfield 10, 3) := by decide +kernel
theorem dX8_drive_50 : decode cX8_drive 50 = .ok (.invokevirtual 152, 3) := by decide +kernel
theorem dX8_drive_53 : decode cX8_drive 53 = .ok (.ireturn, 1) := by decide +kernel
theorem dX8_now_0 : decode cX8_now 0 = .ok (.iload_n 1, 1) := by decide +kernel
theorem dX8_now_1 : decode cX8_now 1 = .ok (.tableswitch 87 0 5 #[39, 47, 55, 63, 71, 79], 39) := by decide +kernel
theorem dX8_now_40 : decode cX8_now 40 = .ok (.aload_n 0, 1) := by decide +kernel
theorem dX8_now_41 : decode cX8_now 41 = .ok (.getfield 10, 3) := by decide +kernel
theorem dX8_now_44 : decode cX8_now 44 = .ok (.getfield 146, 3) := by decide +kernel
theorem dX8_now_47 : decode cX8_now 47 = .ok (.ireturn, 1) := by decide +kernel
theorem dX8_now_48 : decode cX8_now 48 = .ok (.aload_n 0, 1) := by decide +kernel
theorem dX8_now_49 : decode cX8_now 49 = .ok (.getfield 10, 3) := by decide +kernel
theorem dX8_now_52 : decode cX8_now 52 = .ok (.getfield 156, 3) := by decide +kernel
theorem dX8_now_55 : decode cX8_now 55 = .ok (.ireturn, 1) := by decide +kernel
theorem dX8_now_56 : decode cX8_now 56 = .ok (.aload_n 0, 1) := by decide +kernel
theorem dX8_now_57 : decode cX8_now 57 = .ok (.getfield 10, 3) := by decide +kernel
theorem dX8_now_60 : decode cX8_now 60 = .ok (.getfield 75, 3) := by decide +kernel
theorem dX8_now_63 : decode cX8_now 63 = .ok (.ireturn, 1) := by decide +kernel
theorem dX8_now_64 : decode cX8_now 64 = .ok (.aload_n 0, 1) := by decide +kernel
theorem dX8_now_65 : decode cX8_now 65 = .ok (.getfield 10, 3) := by decide +kernel
theorem dX8_now_68 : decode cX8_now 68 = .ok (.invokevirtual 152, 3) := by decide +kernel
theorem dX8_now_71 : decode cX8_now 71 = .ok (.ireturn, 1) := by decide +kernel
theorem dX8_now_72 : decode cX8_now 72 = .ok (.aload_n 0, 1) := by decide +kernel
theorem dX8_now_73 : decode cX8_now 73 = .ok (.getfield 10, 3) := by decide +kernel
theorem dX8_now_76 : decode cX8_now 76 = .ok (.invokevirtual 159, 3) := by decide +kernel
theorem dX8_now_79 : decode cX8_now 79 = .ok (.ireturn, 1) := by decide +kernel
theorem dX8_now_80 : decode cX8_now 80 = .ok (.aload_n 0, 1) := by decide +kernel
theorem dX8_now_81 : decode cX8_now 81 = .ok (.getfield 10, 3) := by decide +kernel
theorem dX8_now_84 : decode cX8_now 84 = .ok (.invokevirtual 162, 3) := by decide +kernel
theorem dX8_now_87 : decode cX8_now 87 = .ok (.ireturn, 1) := by decide +kernel
theorem dX8_now_88 : decode cX8_now 88 = .ok (.aload_n 0, 1) := by decide +kernel
theorem dX8_now_89 : decode cX8_now 89 = .ok (.iconst 0, 1) := by decide +kernel
theorem dX8_now_90 : decode cX8_now 90 = .ok (.invokevirtual 61, 3) := by decide +kernel
theorem dX8_now_93 : decode cX8_now 93 = .ok (.ireturn, 1) := by decide +kernel
theorem dX8_on_0 : decode cX8_on 0 = .ok (.aload_n 0, 1) := by decide +kernel
theorem dX8_on_1 : decode cX8_on 1 = .ok (.getfield 10, 3) := by decide +kernel
theorem dX8_on_4 : decode cX8_on 4 = .ok (.iload_n 1, 1) := by decide +kernel
theorem dX8_on_5 : decode cX8_on 5 = .ok (.invokevirtual 89, 3) := by decide +kernel
theorem dX8_on_8 : decode cX8_on 8 = .ok (.ifCond .eq 22, 3) := by decide +kernel
theorem dX8_on_11 : decode cX8_on 11 = .ok (.iload_n 2, 1) := by decide +kernel
theorem dX8_on_12 : decode cX8_on 12 = .ok (.ifCond .lt 18, 3) := by decide +kernel
theorem dX8_on_15 : decode cX8_on 15 = .ok (.iload_n 2, 1) := by decide +kernel
theorem dX8_on_16 : decode cX8_on 16 = .ok (.bipush 60, 2) := by decide +kernel
theorem dX8_on_18 : decode cX8_on 18 = .ok (.if_icmp .gt 12, 3) := by decide +kernel
theorem dX8_on_21 : decode cX8_on 21 = .ok (.iload_n 3, 1) := by decide +kernel
theorem dX8_on_22 : decode cX8_on 22 = .ok (.ifCond .lt 8, 3) := by decide +kernel
theorem dX8_on_25 : decode cX8_on 25 = .ok (.iload_n 3, 1) := by decide +kernel
theorem dX8_on_26 : decode cX8_on 26 = .ok (.iconst 1, 1) := by decide +kernel
theorem dX8_on_27 : decode cX8_on 27 = .ok (.if_icmp .le 9, 3) := by decide +kernel
theorem dX8_on_30 : decode cX8_on 30 = .ok (.aload_n 0, 1) := by decide +kernel
theorem dX8_on_31 : decode cX8_on 31 = .ok (.iconst 0, 1) := by decide +kernel
theorem dX8_on_32 : decode cX8_on 32 = .ok (.invokevirtual 61, 3) := by decide +kernel
theorem dX8_on_35 : decode cX8_on 35 = .ok (.ireturn, 1) := by decide +kernel
theorem dX8_on_36 : decode cX8_on 36 = .ok (.aload_n 0, 1) := by decide +kernel
theorem dX8_on_37 : decode cX8_on 37 = .ok (.getfield 19, 3) := by decide +kernel
theorem dX8_on_40 : decode cX8_on 40 = .ok (.aload_n 0, 1) := by decide +kernel
theorem dX8_on_41 : decode cX8_on 41 = .ok (.getfield 10, 3) := by decide +kernel
theorem dX8_on_44 : decode cX8_on 44 = .ok (.invokevirtual 165, 3) := by decide +kernel
theorem dX8_on_47 : decode cX8_on 47 = .ok (.aload_n 0, 1) := by decide +kernel
theorem dX8_on_48 : decode cX8_on 48 = .ok (.getfield 19, 3) := by decide +kernel
theorem dX8_on_51 : decode cX8_on 51 = .ok (.iload_n 2, 1) := by decide +kernel
theorem dX8_on_52 : decode cX8_on 52 = .ok (.invokevirtual 149, 3) := by decide +kernel
theorem dX8_on_55 : decode cX8_on 55 = .ok (.iload_n 3, 1) := by decide +kernel
theorem dX8_on_56 : decode cX8_on 56 = .ok (.ifCond .ne 18, 3) := by decide +kernel
theorem dX8_on_59 : decode cX8_on 59 = .ok (.aload_n 0, 1) := by decide +kernel
theorem dX8_on_60 : decode cX8_on 60 = .ok (.getfield 19, 3) := by decide +kernel
theorem dX8_on_63 : decode cX8_on 63 = .ok (.getfield 92, 3) := by decide +kernel
theorem dX8_on_66 : decode cX8_on 66 = .ok (.iload_n 1, 1) := by decide +kernel
theorem dX8_on_67 : decode cX8_on 67 = .ok (.aaload, 1) := by decide +kernel
theorem dX8_on_68 : decode cX8_on 68 = .ok (.getfield 114, 3) := by decide +kernel
theorem dX8_on_71 : decode cX8_on 71 = .ok (.goto 15, 3) := by decide +kernel
theorem dX8_on_74 : decode cX8_on 74 = .ok (.aload_n 0, 1) := by decide +kernel
theorem dX8_on_75 : decode cX8_on 75 = .ok (.getfield 19, 3) := by decide +kernel
theorem dX8_on_78 : decode cX8_on 78 = .ok (.getfield 92, 3) := by decide +kernel
theorem dX8_on_81 : decode cX8_on 81 = .ok (.iload_n 1, 1) := by decide +kernel
theorem dX8_on_82 : decode cX8_on 82 = .ok (.aaload, 1) := by decide +kernel
theorem dX8_on_83 : decode cX8_on 83 = .ok (.getfield 133, 3) := by decide +kernel
theorem dX8_on_86 : decode cX8_on 86 = .ok (.ireturn, 1) := by decide +kernel
theorem dX8_out_0 : decode cX8_out 0 = .ok (.aload_n 0, 1) := by decide +kernel
theorem dX8_out_1 : decode cX8_out 1 = .ok (.getfield 10, 3) := by decide +kernel
theorem dX8_out_4 : decode cX8_out 4 = .ok (.iload_n 1, 1) := by decide +kernel
theorem dX8_out_5 : decode cX8_out 5 = .ok (.invokevirtual 89, 3) := by decide +kernel
theorem dX8_out_8 : decode cX8_out 8 = .ok (.ifCond .ne 9, 3) := by decide +kernel
theorem dX8_out_11 : decode cX8_out 11 = .ok (.aload_n 0, 1) := by decide +kernel
theorem dX8_out_12 : decode cX8_out 12 = .ok (.iconst 0, 1) := by decide +kernel
theorem dX8_out_13 : decode cX8_out 13 = .ok (.invokevirtual 61, 3) := by decide +kernel
theorem dX8_out_16 : decode cX8_out 16 = .ok (.ireturn, 1) := by decide +kernel
theorem dX8_out_17 : decode cX8_out 17 = .ok (.aload_n 0, 1) := by decide +kernel
theorem dX8_out_18 : decode cX8_out 18 = .ok (.getfield 10, 3) := by decide +kernel
theorem dX8_out_21 : decode cX8_out 21 = .ok (.getfield 92, 3) := by decide +kernel
theorem dX8_out_24 : decode cX8_out 24 = .ok (.iload_n 1, 1) := by decide +kernel
theorem dX8_out_25 : decode cX8_out 25 = .ok (.aaload, 1) := by decide +kernel
theorem dX8_out_26 : decode cX8_out 26 = .ok (.invokevirtual 124, 3) := by decide +kernel
theorem dX8_out_29 : decode cX8_out 29 = .ok (.ifCond .ne 9, 3) := by decide +kernel
theorem dX8_out_32 : decode cX8_out 32 = .ok (.aload_n 0, 1) := by decide +kernel
theorem dX8_out_33 : decode cX8_out 33 = .ok (.iconst 4, 1) := by decide +kernel
theorem dX8_out_34 : decode cX8_out 34 = .ok (.invokevirtual 61, 3) := by decide +kernel
theorem dX8_out_37 : decode cX8_out 37 = .ok (.ireturn, 1) := by decide +kernel
theorem dX8_out_38 : decode cX8_out 38 = .ok (.aload_n 0, 1) := by decide +kernel
theorem dX8_out_39 : decode cX8_out 39 = .ok (.getfield 19, 3) := by decide +kernel
theorem dX8_out_42 : decode cX8_out 42 = .ok (.aload_n 0, 1) := by decide +kernel
theorem dX8_out_43 : decode cX8_out 43 = .ok (.getfield 10, 3) := by decide +kernel
theorem dX8_out_46 : decode cX8_out 46 = .ok (.invokevirtual 165, 3) := by decide +kernel
theorem dX8_out_49 : decode cX8_out 49 = .ok (.iconst 1, 1) := by decide +kernel
theorem dX8_out_50 : decode cX8_out 50 = .ok (.istore_n 2, 1) := by decide +kernel
theorem dX8_out_51 : decode cX8_out 51 = .ok (.iload_n 2, 1) := by decide +kernel
theorem dX8_out_52 : decode cX8_out 52 = .ok (.bipush 60, 2) := by decide +kernel
theorem dX8_out_54 : decode cX8_out 54 = .ok (.if_icmp .gt 33, 3) := by decide +kernel
theorem dX8_out_57 : decode cX8_out 57 = .ok (.aload_n 0, 1) := by decide +kernel
theorem dX8_out_58 : decode cX8_out 58 = .ok (.getfield 19, 3) := by decide +kernel
theorem dX8_out_61 : decode cX8_out 61 = .ok (.invokevirtual 169, 3) := by decide +kernel
theorem dX8_out_64 : decode cX8_out 64 = .ok (.aload_n 0, 1) := by decide +kernel
theorem dX8_out_65 : decode cX8_out 65 = .ok (.getfield 19, 3) := by decide +kernel
theorem dX8_out_68 : decode cX8_out 68 = .ok (.getfield 92, 3) := by decide +kernel
theorem dX8_out_71 : decode cX8_out 71 = .ok (.iload_n 1, 1) := by decide +kernel
theorem dX8_out_72 : decode cX8_out 72 = .ok (.aaload, 1) := by decide +kernel
theorem dX8_out_73 : decode cX8_out 73 = .ok (.invokevirtual 124, 3) := by decide +kernel
theorem dX8_out_76 : decode cX8_out 76 = .ok (.ifCond .ne 5, 3) := by decide +kernel
theorem dX8_out_79 : decode cX8_out 79 = .ok (.iload_n 2, 1) := by decide +kernel
theorem dX8_out_80 : decode cX8_out 80 = .ok (.ireturn, 1) := by decide +kernel
theorem dX8_out_81 : decode cX8_out 81 = .ok (.iinc 2 1, 3) := by decide +kernel
theorem dX8_out_84 : decode cX8_out 84 = .ok (.goto (-33), 3) := by decide +kernel
theorem dX8_out_87 : decode cX8_out 87 = .ok (.aload_n 0, 1) := by decide +kernel
theorem dX8_out_88 : decode cX8_out 88 = .ok (.iconst 3, 1) := by decide +kernel
theorem dX8_out_89 : decode cX8_out 89 = .ok (.invokevirtual 61, 3) := by decide +kernel
theorem dX8_out_92 : decode cX8_out 92 = .ok (.ireturn, 1) := by decide +kernel
theorem dX8_firstOut_0 : decode cX8_firstOut 0 = .ok (.aload_n 0, 1) := by decide +kernel
theorem dX8_firstOut_1 : decode cX8_firstOut 1 = .ok (.getfield 19, 3) := by decide +kernel
theorem dX8_firstOut_4 : decode cX8_firstOut 4 = .ok (.aload_n 0, 1) := by decide +kernel
theorem dX8_firstOut_5 : decode cX8_firstOut 5 = .ok (.getfield 10, 3) := by decide +kernel
theorem dX8_firstOut_8 : decode cX8_firstOut 8 = .ok (.invokevirtual 165, 3) := by decide +kernel
theorem dX8_firstOut_11 : decode cX8_firstOut 11 = .ok (.aload_n 0, 1) := by decide +kernel
theorem dX8_firstOut_12 : decode cX8_firstOut 12 = .ok (.getfield 10, 3) := by decide +kernel
theorem dX8_firstOut_15 : decode cX8_firstOut 15 = .ok (.invokevirtual 152, 3) := by decide +kernel
theorem dX8_firstOut_18 : decode cX8_firstOut 18 = .ok (.istore_n 1, 1) := by decide +kernel
theorem dX8_firstOut_19 : decode cX8_firstOut 19 = .ok (.iconst 1, 1) := by decide +kernel
theorem dX8_firstOut_20 : decode cX8_firstOut 20 = .ok (.istore_n 2, 1) := by decide +kernel
theorem dX8_firstOut_21 : decode cX8_firstOut 21 = .ok (.iload_n 2, 1) := by decide +kernel
theorem dX8_firstOut_22 : decode cX8_firstOut 22 = .ok (.bipush 60, 2) := by decide +kernel
theorem dX8_firstOut_24 : decode cX8_firstOut 24 = .ok (.if_icmp .gt 29, 3) := by decide +kernel
theorem dX8_firstOut_27 : decode cX8_firstOut 27 = .ok (.aload_n 0, 1) := by decide +kernel
theorem dX8_firstOut_28 : decode cX8_firstOut 28 = .ok (.getfield 19, 3) := by decide +kernel
theorem dX8_firstOut_31 : decode cX8_firstOut 31 = .ok (.invokevirtual 169, 3) := by decide +kernel
theorem dX8_firstOut_34 : decode cX8_firstOut 34 = .ok (.aload_n 0, 1) := by decide +kernel
theorem dX8_firstOut_35 : decode cX8_firstOut 35 = .ok (.getfield 19, 3) := by decide +kernel
theorem dX8_firstOut_38 : decode cX8_firstOut 38 = .ok (.invokevirtual 152, 3) := by decide +kernel
theorem dX8_firstOut_41 : decode cX8_firstOut 41 = .ok (.iload_n 1, 1) := by decide +kernel
theorem dX8_firstOut_42 : decode cX8_firstOut 42 = .ok (.if_icmp .eq 5, 3) := by decide +kernel
theorem dX8_firstOut_45 : decode cX8_firstOut 45 = .ok (.iload_n 2, 1) := by decide +kernel
theorem dX8_firstOut_46 : decode cX8_firstOut 46 = .ok (.ireturn, 1) := by decide +kernel
theorem dX8_firstOut_47 : decode cX8_firstOut 47 = .ok (.iinc 2 1, 3) := by decide +kernel
theorem dX8_firstOut_50 : decode cX8_firstOut 50 = .ok (.goto (-29), 3) := by decide +kernel
theorem dX8_firstOut_53 : decode cX8_firstOut 53 = .ok (.aload_n 0, 1) := by decide +kernel
theorem dX8_firstOut_54 : decode cX8_firstOut 54 = .ok (.iconst 3, 1) := by decide +kernel
theorem dX8_firstOut_55 : decode cX8_firstOut 55 = .ok (.invokevirtual 61, 3) := by decide +kernel
theorem dX8_firstOut_58 : decode cX8_firstOut 58 = .ok (.ireturn, 1) := by decide +kernel
theorem dX8_quick_0 : decode cX8_quick 0 = .ok (.aload_n 0, 1) := by decide +kernel
theorem dX8_quick_1 : decode cX8_quick 1 = .ok (.getfield 10, 3) := by decide +kernel
theorem dX8_quick_4 : decode cX8_quick 4 = .ok (.iload_n 1, 1) := by decide +kernel
theorem dX8_quick_5 : decode cX8_quick 5 = .ok (.invokevirtual 89, 3) := by decide +kernel
theorem dX8_quick_8 : decode cX8_quick 8 = .ok (.ifCond .ne 9, 3) := by decide +kernel
theorem dX8_quick_11 : decode cX8_quick 11 = .ok (.aload_n 0, 1) := by decide +kernel
theorem dX8_quick_12 : decode cX8_quick 12 = .ok (.iconst 0, 1) := by decide +kernel
theorem dX8_quick_13 : decode cX8_quick 13 = .ok (.invokevirtual 61, 3) := by decide +kernel
theorem dX8_quick_16 : decode cX8_quick 16 = .ok (.ireturn, 1) := by decide +kernel
theorem dX8_quick_17 : decode cX8_quick 17 = .ok (.aload_n 0, 1) := by decide +kernel
theorem dX8_quick_18 : decode cX8_quick 18 = .ok (.getfield 10, 3) := by decide +kernel
theorem dX8_quick_21 : decode cX8_quick 21 = .ok (.getfield 92, 3) := by decide +kernel
theorem dX8_quick_24 : decode cX8_quick 24 = .ok (.iload_n 1, 1) := by decide +kernel
theorem dX8_quick_25 : decode cX8_quick 25 = .ok (.aaload, 1) := by decide +kernel
theorem dX8_quick_26 : decode cX8_quick 26 = .ok (.invokevirtual 124, 3) := by decide +kernel
theorem dX8_quick_29 : decode cX8_quick 29 = .ok (.ifCond .eq 9, 3) := by decide +kernel
theorem dX8_quick_32 : decode cX8_quick 32 = .ok (.aload_n 0, 1) := by decide +kernel
theorem dX8_quick_33 : decode cX8_quick 33 = .ok (.iconst 4, 1) := by decide +kernel
theorem dX8_quick_34 : decode cX8_quick 34 = .ok (.invokevirtual 61, 3) := by decide +kernel
theorem dX8_quick_37 : decode cX8_quick 37 = .ok (.ireturn, 1) := by decide +kernel
theorem dX8_quick_38 : decode cX8_quick 38 = .ok (.aload_n 0, 1) := by decide +kernel
theorem dX8_quick_39 : decode cX8_quick 39 = .ok (.getfield 10, 3) := by decide +kernel
theorem dX8_quick_42 : decode cX8_quick 42 = .ok (.iload_n 1, 1) := by decide +kernel
theorem dX8_quick_43 : decode cX8_quick 43 = .ok (.invokevirtual 172, 3) := by decide +kernel
theorem dX8_quick_46 : decode cX8_quick 46 = .ok (.istore_n 2, 1) := by decide +kernel
theorem dX8_quick_47 : decode cX8_quick 47 = .ok (.iload_n 2, 1) := by decide +kernel
theorem dX8_quick_48 : decode cX8_quick 48 = .ok (.iconst (-1), 1) := by decide +kernel
theorem dX8_quick_49 : decode cX8_quick 49 = .ok (.if_icmp .ne 11, 3) := by decide +kernel
theorem dX8_quick_52 : decode cX8_quick 52 = .ok (.aload_n 0, 1) := by decide +kernel
theorem dX8_quick_53 : decode cX8_quick 53 = .ok (.iconst 3, 1) := by decide +kernel
theorem dX8_quick_54 : decode cX8_quick 54 = .ok (.invokevirtual 61, 3) := by decide +kernel
theorem dX8_quick_57 : decode cX8_quick 57 = .ok (.goto 4, 3) := by decide +kernel
theorem dX8_quick_60 : decode cX8_quick 60 = .ok (.iload_n 2, 1) := by decide +kernel
theorem dX8_quick_61 : decode cX8_quick 61 = .ok (.ireturn, 1) := by decide +kernel
theorem dX8_safe_0 : decode cX8_safe 0 = .ok (.aload_n 0, 1) := by decide +kernel
theorem dX8_safe_1 : decode cX8_safe 1 = .ok (.getfield 10, 3) := by decide +kernel
theorem dX8_safe_4 : decode cX8_safe 4 = .ok (.iload_n 1, 1) := by decide +kernel
theorem dX8_safe_5 : decode cX8_safe 5 = .ok (.invokevirtual 89, 3) := by decide +kernel
theorem dX8_safe_8 : decode cX8_safe 8 = .ok (.ifCond .ne 9, 3) := by decide +kernel
theorem dX8_safe_11 : decode cX8_safe 11 = .ok (.aload_n 0, 1) := by decide +kernel
theorem dX8_safe_12 : decode cX8_safe 12 = .ok (.iconst 0, 1) := by decide +kernel
theorem dX8_safe_13 : decode cX8_safe 13 = .ok (.invokevirtual 61, 3) := by decide +kernel
theorem dX8_safe_16 : decode cX8_safe 16 = .ok (.ireturn, 1) := by decide +kernel
theorem dX8_safe_17 : decode cX8_safe 17 = .ok (.aload_n 0, 1) := by decide +kernel
theorem dX8_safe_18 : decode cX8_safe 18 = .ok (.getfield 10, 3) := by decide +kernel
theorem dX8_safe_21 : decode cX8_safe 21 = .ok (.getfield 92, 3) := by decide +kernel
theorem dX8_safe_24 : decode cX8_safe 24 = .ok (.iload_n 1, 1) := by decide +kernel
theorem dX8_safe_25 : decode cX8_safe 25 = .ok (.aaload, 1) := by decide +kernel
theorem dX8_safe_26 : decode cX8_safe 26 = .ok (.invokevirtual 124, 3) := by decide +kernel
theorem dX8_safe_29 : decode cX8_safe 29 = .ok (.ifCond .eq 9, 3) := by decide +kernel
theorem dX8_safe_32 : decode cX8_safe 32 = .ok (.aload_n 0, 1) := by decide +kernel
theorem dX8_safe_33 : decode cX8_safe 33 = .ok (.iconst 4, 1) := by decide +kernel
theorem dX8_safe_34 : decode cX8_safe 34 = .ok (.invokevirtual 61, 3) := by decide +kernel
theorem dX8_safe_37 : decode cX8_safe 37 = .ok (.ireturn, 1) := by decide +kernel
theorem dX8_safe_38 : decode cX8_safe 38 = .ok (.aload_n 0, 1) := by decide +kernel
theorem dX8_safe_39 : decode cX8_safe 39 = .ok (.getfield 10, 3) := by decide +kernel
theorem dX8_safe_42 : decode cX8_safe 42 = .ok (.iload_n 1, 1) := by decide +kernel
theorem dX8_safe_43 : decode cX8_safe 43 = .ok (.invokevirtual 175, 3) := by decide +kernel
theorem dX8_safe_46 : decode cX8_safe 46 = .ok (.istore_n 2, 1) := by decide +kernel
theorem dX8_safe_47 : decode cX8_safe 47 = .ok (.iload_n 2, 1) := by decide +kernel
theorem dX8_safe_48 : decode cX8_safe 48 = .ok (.iconst (-1), 1) := by decide +kernel
theorem dX8_safe_49 : decode cX8_safe 49 = .ok (.if_icmp .ne 11, 3) := by decide +kernel
theorem dX8_safe_52 : decode cX8_safe 52 = .ok (.aload_n 0, 1) := by decide +kernel
theorem dX8_safe_53 : decode cX8_safe 53 = .ok (.iconst 3, 1) := by decide +kernel
theorem dX8_safe_54 : decode cX8_safe 54 = .ok (.invokevirtual 61, 3) := by decide +kernel
theorem dX8_safe_57 : decode cX8_safe 57 = .ok (.goto 4, 3) := by decide +kernel
theorem dX8_safe_60 : decode cX8_safe 60 = .ok (.iload_n 2, 1) := by decide +kernel
theorem dX8_safe_61 : decode cX8_safe 61 = .ok (.ireturn, 1) := by decide +kernel
theorem dX8_all_0 : decode cX8_all 0 = .ok (.aload_n 0, 1) := by decide +kernel
theorem dX8_all_1 : decode cX8_all 1 = .ok (.getfield 10, 3) := by decide +kernel
theorem dX8_all_4 : decode cX8_all 4 = .ok (.iload_n 1, 1) := by decide +kernel
theorem dX8_all_5 : decode cX8_all 5 = .ok (.invokevirtual 178, 3) := by decide +kernel
theorem dX8_all_8 : decode cX8_all 8 = .ok (.ifCond .ne 9, 3) := by decide +kernel
theorem dX8_all_11 : decode cX8_all 11 = .ok (.aload_n 0, 1) := by decide +kernel
theorem dX8_all_12 : decode cX8_all 12 = .ok (.iconst 0, 1) := by decide +kernel
theorem dX8_all_13 : decode cX8_all 13 = .ok (.invokevirtual 61, 3) := by decide +kernel
theorem dX8_all_16 : decode cX8_all 16 = .ok (.ireturn, 1) := by decide +kernel
theorem dX8_all_17 : decode cX8_all 17 = .ok (.iload_n 1, 1) := by decide +kernel
theorem dX8_all_18 : decode cX8_all 18 = .ok (.invokestatic 181, 3) := by decide +kernel
theorem dX8_all_21 : decode cX8_all 21 = .ok (.iconst 3, 1) := by decide +kernel
theorem dX8_all_22 : decode cX8_all 22 = .ok (.if_icmp .eq 10, 3) := by decide +kernel
theorem dX8_all_25 : decode cX8_all 25 = .ok (.aload_n 0, 1) := by decide +kernel
theorem dX8_all_26 : decode cX8_all 26 = .ok (.bipush 6, 2) := by decide +kernel
theorem dX8_all_28 : decode cX8_all 28 = .ok (.invokevirtual 61, 3) := by decide +kernel
theorem dX8_all_31 : decode cX8_all 31 = .ok (.ireturn, 1) := by decide +kernel
theorem dX8_all_32 : decode cX8_all 32 = .ok (.aload_n 0, 1) := by decide +kernel
theorem dX8_all_33 : decode cX8_all 33 = .ok (.getfield 10, 3) := by decide +kernel
theorem dX8_all_36 : decode cX8_all 36 = .ok (.invokevirtual 152, 3) := by decide +kernel
theorem dX8_all_39 : decode cX8_all 39 = .ok (.ifCond .eq 9, 3) := by decide +kernel
theorem dX8_all_42 : decode cX8_all 42 = .ok (.aload_n 0, 1) := by decide +kernel
theorem dX8_all_43 : decode cX8_all 43 = .ok (.iconst 4, 1) := by decide +kernel
theorem dX8_all_44 : decode cX8_all 44 = .ok (.invokevirtual 61, 3) := by decide +kernel
theorem dX8_all_47 : decode cX8_all 47 = .ok (.ireturn, 1) := by decide +kernel
theorem dX8_all_48 : decode cX8_all 48 = .ok (.aload_n 0, 1) := by decide +kernel
theorem dX8_all_49 : decode cX8_all 49 = .ok (.getfield 32, 3) := by decide +kernel
theorem dX8_all_52 : decode cX8_all 52 = .ok (.aload_n 0, 1) := by decide +kernel
theorem dX8_all_53 : decode cX8_all 53 = .ok (.getfield 10, 3) := by decide +kernel
theorem dX8_all_56 : decode cX8_all 56 = .ok (.iload_n 1, 1) := by decide +kernel
theorem dX8_all_57 : decode cX8_all 57 = .ok (.invokevirtual 186, 3) := by decide +kernel
theorem dX8_all_60 : decode cX8_all 60 = .ok (.aload_n 0, 1) := by decide +kernel
theorem dX8_all_61 : decode cX8_all 61 = .ok (.getfield 32, 3) := by decide +kernel
theorem dX8_all_64 : decode cX8_all 64 = .ok (.getfield 190, 3) := by decide +kernel
theorem dX8_all_67 : decode cX8_all 67 = .ok (.ireturn, 1) := by decide +kernel
theorem dX8_way_0 : decode cX8_way 0 = .ok (.aload_n 0, 1) := by decide +kernel
theorem dX8_way_1 : decode cX8_way 1 = .ok (.getfield 10, 3) := by decide +kernel
theorem dX8_way_4 : decode cX8_way 4 = .ok (.iload_n 1, 1) := by decide +kernel
theorem dX8_way_5 : decode cX8_way 5 = .ok (.invokevirtual 178, 3) := by decide +kernel
theorem dX8_way_8 : decode cX8_way 8 = .ok (.ifCond .eq 12, 3) := by decide +kernel
theorem dX8_way_11 : decode cX8_way 11 = .ok (.iload_n 2, 1) := by decide +kernel
theorem dX8_way_12 : decode cX8_way 12 = .ok (.ifCond .lt 8, 3) := by decide +kernel
theorem dX8_way_15 : decode cX8_way 15 = .ok (.iload_n 2, 1) := by decide +kernel
theorem dX8_way_16 : decode cX8_way 16 = .ok (.iconst 3, 1) := by decide +kernel
theorem dX8_way_17 : decode cX8_way 17 = .ok (.if_icmp .lt 9, 3) := by decide +kernel
theorem dX8_way_20 : decode cX8_way 20 = .ok (.aload_n 0, 1) := by decide +kernel
theorem dX8_way_21 : decode cX8_way 21 = .ok (.iconst 0, 1) := by decide +kernel
theorem dX8_way_22 : decode cX8_way 22 = .ok (.invokevirtual 61, 3) := by decide +kernel
theorem dX8_way_25 : decode cX8_way 25 = .ok (.ireturn, 1) := by decide +kernel
theorem dX8_way_26 : decode cX8_way 26 = .ok (.iload_n 1, 1) := by decide +kernel
theorem dX8_way_27 : decode cX8_way 27 = .ok (.invokestatic 181, 3) := by decide +kernel
theorem dX8_way_30 : decode cX8_way 30 = .ok (.iconst 3, 1) := by decide +kernel
theorem dX8_way_31 : decode cX8_way 31 = .ok (.if_icmp .eq 10, 3) := by decide +kernel
theorem dX8_way_34 : decode cX8_way 34 = .ok (.aload_n 0, 1) := by decide +kernel
theorem dX8_way_35 : decode cX8_way 35 = .ok (.bipush 6, 2) := by decide +kernel
theorem dX8_way_37 : decode cX8_way 37 = .ok (.invokevirtual 61, 3) := by decide +kernel
theorem dX8_way_40 : decode cX8_way 40 = .ok (.ireturn, 1) := by decide +kernel
theorem dX8_way_41 : decode cX8_way 41 = .ok (.aload_n 0, 1) := by decide +kernel
theorem dX8_way_42 : decode cX8_way 42 = .ok (.getfield 10, 3) := by decide +kernel
theorem dX8_way_45 : decode cX8_way 45 = .ok (.invokevirtual 152, 3) := by decide +kernel
theorem dX8_way_48 : decode cX8_way 48 = .ok (.ifCond .eq 9, 3) := by decide +kernel
theorem dX8_way_51 : decode cX8_way 51 = .ok (.aload_n 0, 1) := by decide +kernel
theorem dX8_way_52 : decode cX8_way 52 = .ok (.iconst 4, 1) := by decide +kernel
theorem dX8_way_53 : decode cX8_way 53 = .ok (.invokevirtual 61, 3) := by decide +kernel
theorem dX8_way_56 : decode cX8_way 56 = .ok (.ireturn, 1) := by decide +kernel
theorem dX8_way_57 : decode cX8_way 57 = .ok (.aload_n 0, 1) := by decide +kernel
theorem dX8_way_58 : decode cX8_way 58 = .ok (.getfield 32, 3) := by decide +kernel
theorem dX8_way_61 : decode cX8_way 61 = .ok (.aload_n 0, 1) := by decide +kernel
theorem dX8_way_62 : decode cX8_way 62 = .ok (.getfield 10, 3) := by decide +kernel
theorem dX8_way_65 : decode cX8_way 65 = .ok (.iload_n 1, 1) := by decide +kernel
theorem dX8_way_66 : decode cX8_way 66 = .ok (.invokevirtual 186, 3) := by decide +kernel
theorem dX8_way_69 : decode cX8_way 69 = .ok (.aload_n 0, 1) := by decide +kernel
theorem dX8_way_70 : decode cX8_way 70 = .ok (.getfield 32, 3) := by decide +kernel
theorem dX8_way_73 : decode cX8_way 73 = .ok (.getfield 193, 3) := by decide +kernel
theorem dX8_way_76 : decode cX8_way 76 = .ok (.iload_n 2, 1) := by decide +kernel
theorem dX8_way_77 : decode cX8_way 77 = .ok (.iaload, 1) := by decide +kernel
theorem dX8_way_78 : decode cX8_way 78 = .ok (.ireturn, 1) := by decide +kernel
theorem dX8_kind_0 : decode cX8_kind 0 = .ok (.aload_n 0, 1) := by decide +kernel
theorem dX8_kind_1 : decode cX8_kind 1 = .ok (.getfield 10, 3) := by decide +kernel
theorem dX8_kind_4 : decode cX8_kind 4 = .ok (.iload_n 1, 1) := by decide +kernel
theorem dX8_kind_5 : decode cX8_kind 5 = .ok (.invokevirtual 89, 3) := by decide +kernel
theorem dX8_kind_8 : decode cX8_kind 8 = .ok (.ifCond .eq 10, 3) := by decide +kernel
theorem dX8_kind_11 : decode cX8_kind 11 = .ok (.iload_n 2, 1) := by decide +kernel
theorem dX8_kind_12 : decode cX8_kind 12 = .ok (.invokestatic 51, 3) := by decide +kernel
theorem dX8_kind_15 : decode cX8_kind 15 = .ok (.ifCond .ne 9, 3) := by decide +kernel
theorem dX8_kind_18 : decode cX8_kind 18 = .ok (.aload_n 0, 1) := by decide +kernel
theorem dX8_kind_19 : decode cX8_kind 19 = .ok (.iconst 0, 1) := by decide +kernel
theorem dX8_kind_20 : decode cX8_kind 20 = .ok (.invokevirtual 61, 3) := by decide +kernel
theorem dX8_kind_23 : decode cX8_kind 23 = .ok (.ireturn, 1) := by decide +kernel
theorem dX8_kind_24 : decode cX8_kind 24 = .ok (.iconst 0, 1) := by decide +kernel
theorem dX8_kind_25 : decode cX8_kind 25 = .ok (.istore_n 3, 1) := by decide +kernel
theorem dX8_kind_26 : decode cX8_kind 26 = .ok (.aload_n 0, 1) := by decide +kernel
theorem dX8_kind_27 : decode cX8_kind 27 = .ok (.getfield 10, 3) := by decide +kernel
theorem dX8_kind_30 : decode cX8_kind 30 = .ok (.iconst 0, 1) := by decide +kernel
theorem dX8_kind_31 : decode cX8_kind 31 = .ok (.iload_n 1, 1) := by decide +kernel
theorem dX8_kind_32 : decode cX8_kind 32 = .ok (.iload_n 2, 1) := by decide +kernel
theorem dX8_kind_33 : decode cX8_kind 33 = .ok (.invokevirtual 196, 3) := by decide +kernel
theorem dX8_kind_36 : decode cX8_kind 36 = .ok (.istore 4, 2) := by decide +kernel
theorem dX8_kind_38 : decode cX8_kind 38 = .ok (.iconst 1, 1) := by decide +kernel
theorem dX8_kind_39 : decode cX8_kind 39 = .ok (.istore 5, 2) := by decide +kernel
theorem dX8_kind_41 : decode cX8_kind 41 = .ok (.iload 5, 2) := by decide +kernel
theorem dX8_kind_43 : decode cX8_kind 43 = .ok (.bipush 6, 2) := by decide +kernel
theorem dX8_kind_45 : decode cX8_kind 45 = .ok (.if_icmp .ge 36, 3) := by decide +kernel
theorem dX8_kind_48 : decode cX8_kind 48 = .ok (.aload_n 0, 1) := by decide +kernel
theorem dX8_kind_49 : decode cX8_kind 49 = .ok (.getfield 10, 3) := by decide +kernel
theorem dX8_kind_52 : decode cX8_kind 52 = .ok (.iload 5, 2) := by decide +kernel
theorem dX8_kind_54 : decode cX8_kind 54 = .ok (.iload_n 1, 1) := by decide +kernel
theorem dX8_kind_55 : decode cX8_kind 55 = .ok (.iload_n 2, 1) := by decide +kernel
theorem dX8_kind_56 : decode cX8_kind 56 = .ok (.invokevirtual 196, 3) := by decide +kernel
theorem dX8_kind_59 : decode cX8_kind 59 = .ok (.istore 6, 2) := by decide +kernel
theorem dX8_kind_61 : decode cX8_kind 61 = .ok (.iload 6, 2) := by decide +kernel
theorem dX8_kind_63 : decode cX8_kind 63 = .ok (.iload 4, 2) := by decide +kernel
theorem dX8_kind_65 : decode cX8_kind 65 = .ok (.if_icmp .ge 10, 3) := by decide +kernel
theorem dX8_kind_68 : decode cX8_kind 68 = .ok (.iload 5, 2) := by decide +kernel
theorem dX8_kind_70 : decode cX8_kind 70 = .ok (.istore_n 3, 1) := by decide +kernel
theorem dX8_kind_71 : decode cX8_kind 71 = .ok (.iload 6, 2) := by decide +kernel
theorem dX8_kind_73 : decode cX8_kind 73 = .ok (.istore 4, 2) := by decide +kernel
theorem dX8_kind_75 : decode cX8_kind 75 = .ok (.iinc 5 1, 3) := by decide +kernel
theorem dX8_kind_78 : decode cX8_kind 78 = .ok (.goto (-37), 3) := by decide +kernel
theorem dX8_kind_81 : decode cX8_kind 81 = .ok (.iload_n 3, 1) := by decide +kernel
theorem dX8_kind_82 : decode cX8_kind 82 = .ok (.ireturn, 1) := by decide +kernel
theorem dX8_bribes_0 : decode cX8_bribes 0 = .ok (.aload_n 0, 1) := by decide +kernel
theorem dX8_bribes_1 : decode cX8_bribes 1 = .ok (.getfield 10, 3) := by decide +kernel
theorem dX8_bribes_4 : decode cX8_bribes 4 = .ok (.iload_n 1, 1) := by decide +kernel
theorem dX8_bribes_5 : decode cX8_bribes 5 = .ok (.invokevirtual 89, 3) := by decide +kernel
theorem dX8_bribes_8 : decode cX8_bribes 8 = .ok (.ifCond .eq 14, 3) := by decide +kernel
theorem dX8_bribes_11 : decode cX8_bribes 11 = .ok (.iload_n 2, 1) := by decide +kernel
theorem dX8_bribes_12 : decode cX8_bribes 12 = .ok (.iconst 1, 1) := by decide +kernel
theorem dX8_bribes_13 : decode cX8_bribes 13 = .ok (.if_icmp .lt 9, 3) := by decide +kernel
theorem dX8_bribes_16 : decode cX8_bribes 16 = .ok (.iload_n 2, 1) := by decide +kernel
theorem dX8_bribes_17 : decode cX8_bribes 17 = .ok (.bipush 60, 2) := by decide +kernel
theorem dX8_bribes_19 : decode cX8_bribes 19 = .ok (.if_icmp .le 9, 3) := by decide +kernel
theorem dX8_bribes_22 : decode cX8_bribes 22 = .ok (.aload_n 0, 1) := by decide +kernel
theorem dX8_bribes_23 : decode cX8_bribes 23 = .ok (.iconst 0, 1) := by decide +kernel
theorem dX8_bribes_24 : decode cX8_bribes 24 = .ok (.invokevirtual 61, 3) := by decide +kernel
theorem dX8_bribes_27 : decode cX8_bribes 27 = .ok (.ireturn, 1) := by decide +kernel
theorem dX8_bribes_28 : decode cX8_bribes 28 = .ok (.aload_n 0, 1) := by decide +kernel
theorem dX8_bribes_29 : decode cX8_bribes 29 = .ok (.getfield 10, 3) := by decide +kernel
theorem dX8_bribes_32 : decode cX8_bribes 32 = .ok (.getfield 92, 3) := by decide +kernel
theorem dX8_bribes_35 : decode cX8_bribes 35 = .ok (.iload_n 1, 1) := by decide +kernel
theorem dX8_bribes_36 : decode cX8_bribes 36 = .ok (.aaload, 1) := by decide +kernel
theorem dX8_bribes_37 : decode cX8_bribes 37 = .ok (.invokevirtual 124, 3) := by decide +kernel
theorem dX8_bribes_40 : decode cX8_bribes 40 = .ok (.ifCond .ne 9, 3) := by decide +kernel
theorem dX8_bribes_43 : decode cX8_bribes 43 = .ok (.aload_n 0, 1) := by decide +kernel
theorem dX8_bribes_44 : decode cX8_bribes 44 = .ok (.iconst 4, 1) := by decide +kernel
theorem dX8_bribes_45 : decode cX8_bribes 45 = .ok (.invokevirtual 61, 3) := by decide +kernel
theorem dX8_bribes_48 : decode cX8_bribes 48 = .ok (.ireturn, 1) := by decide +kernel
theorem dX8_bribes_49 : decode cX8_bribes 49 = .ok (.iconst 0, 1) := by decide +kernel
theorem dX8_bribes_50 : decode cX8_bribes 50 = .ok (.istore_n 3, 1) := by decide +kernel
theorem dX8_bribes_51 : decode cX8_bribes 51 = .ok (.iload_n 3, 1) := by decide +kernel
theorem dX8_bribes_52 : decode cX8_bribes 52 = .ok (.bipush 9, 2) := by decide +kernel
theorem dX8_bribes_54 : decode cX8_bribes 54 = .ok (.if_icmp .gt 54, 3) := by decide +kernel
theorem dX8_bribes_57 : decode cX8_bribes 57 = .ok (.aload_n 0, 1) := by decide +kernel
theorem dX8_bribes_58 : decode cX8_bribes 58 = .ok (.getfield 19, 3) := by decide +kernel
theorem dX8_bribes_61 : decode cX8_bribes 61 = .ok (.aload_n 0, 1) := by decide +kernel
theorem dX8_bribes_62 : decode cX8_bribes 62 = .ok (.getfield 10, 3) := by decide +kernel
theorem dX8_bribes_65 : decode cX8_bribes 65 = .ok (.invokevirtual 165, 3) := by decide +kernel
theorem dX8_bribes_68 : decode cX8_bribes 68 = .ok (.iconst 0, 1) := by decide +kernel
theorem dX8_bribes_69 : decode cX8_bribes 69 = .ok (.istore 4, 2) := by decide +kernel
theorem dX8_bribes_71 : decode cX8_bribes 71 = .ok (.iload 4, 2) := by decide +kernel
theorem dX8_bribes_73 : decode cX8_bribes 73 = .ok (.iload_n 3, 1) := by decide +kernel
theorem dX8_bribes_74 : decode cX8_bribes 74 = .ok (.if_icmp .ge 17, 3) := by decide +kernel
theorem dX8_bribes_77 : decode cX8_bribes 77 = .ok (.aload_n 0, 1) := by decide +kernel
theorem dX8_bribes_78 : decode cX8_bribes 78 = .ok (.getfield 19, 3) := by decide +kernel
theorem dX8_bribes_81 : decode cX8_bribes 81 = .ok (.iload_n 1, 1) := by decide +kernel
theorem dX8_bribes_82 : decode cX8_bribes 82 = .ok (.invokevirtual 143, 3) := by decide +kernel
theorem dX8_bribes_85 : decode cX8_bribes 85 = .ok (.iinc 4 1, 3) := by decide +kernel
theorem dX8_bribes_88 : decode cX8_bribes 88 = .ok (.goto (-17), 3) := by decide +kernel
theorem dX8_bribes_91 : decode cX8_bribes 91 = .ok (.aload_n 0, 1) := by decide +kernel
theorem dX8_bribes_92 : decode cX8_bribes 92 = .ok (.iload_n 1, 1) := by decide +kernel
theorem dX8_bribes_93 : decode cX8_bribes 93 = .ok (.iload_n 2, 1) := by decide +kernel
theorem dX8_bribes_94 : decode cX8_bribes 94 = .ok (.invokevirtual 200, 3) := by decide +kernel
theorem dX8_bribes_97 : decode cX8_bribes 97 = .ok (.ifCond .eq 5, 3) := by decide +kernel
theorem dX8_bribes_100 : decode cX8_bribes 100 = .ok (.iload_n 3, 1) := by decide +kernel
theorem dX8_bribes_101 : decode cX8_bribes 101 = .ok (.ireturn, 1) := by decide +kernel
theorem dX8_bribes_102 : decode cX8_bribes 102 = .ok (.iinc 3 1, 3) := by decide +kernel
theorem dX8_bribes_105 : decode cX8_bribes 105 = .ok (.goto (-54), 3) := by decide +kernel
theorem dX8_bribes_108 : decode cX8_bribes 108 = .ok (.aload_n 0, 1) := by decide +kernel
theorem dX8_bribes_109 : decode cX8_bribes 109 = .ok (.iconst 3, 1) := by decide +kernel
theorem dX8_bribes_110 : decode cX8_bribes 110 = .ok (.invokevirtual 61, 3) := by decide +kernel
theorem dX8_bribes_113 : decode cX8_bribes 113 = .ok (.ireturn, 1) := by decide +kernel
theorem dX8_coat_0 : decode cX8_coat 0 = .ok (.aload_n 0, 1) := by decide +kernel
theorem dX8_coat_1 : decode cX8_coat 1 = .ok (.getfield 10, 3) := by decide +kernel
theorem dX8_coat_4 : decode cX8_coat 4 = .ok (.iload_n 1, 1) := by decide +kernel
theorem dX8_coat_5 : decode cX8_coat 5 = .ok (.invokevirtual 89, 3) := by decide +kernel
theorem dX8_coat_8 : decode cX8_coat 8 = .ok (.ifCond .eq 10, 3) := by decide +kernel
theorem dX8_coat_11 : decode cX8_coat 11 = .ok (.iload_n 2, 1) := by decide +kernel
theorem dX8_coat_12 : decode cX8_coat 12 = .ok (.invokestatic 51, 3) := by decide +kernel
theorem dX8_coat_15 : decode cX8_coat 15 = .ok (.ifCond .ne 9, 3) := by decide +kernel
theorem dX8_coat_18 : decode cX8_coat 18 = .ok (.aload_n 0, 1) := by decide +kernel
theorem dX8_coat_19 : decode cX8_coat 19 = .ok (.iconst 0, 1) := by decide +kernel
theorem dX8_coat_20 : decode cX8_coat 20 = .ok (.invokevirtual 61, 3) := by decide +kernel
theorem dX8_coat_23 : decode cX8_coat 23 = .ok (.ireturn, 1) := by decide +kernel
theorem dX8_coat_24 : decode cX8_coat 24 = .ok (.aload_n 0, 1) := by decide +kernel
theorem dX8_coat_25 : decode cX8_coat 25 = .ok (.getfield 19, 3) := by decide +kernel
theorem dX8_coat_28 : decode cX8_coat 28 = .ok (.aload_n 0, 1) := by decide +kernel
theorem dX8_coat_29 : decode cX8_coat 29 = .ok (.getfield 10, 3) := by decide +kernel
theorem dX8_coat_32 : decode cX8_coat 32 = .ok (.invokevirtual 165, 3) := by decide +kernel
theorem dX8_coat_35 : decode cX8_coat 35 = .ok (.aload_n 0, 1) := by decide +kernel
theorem dX8_coat_36 : decode cX8_coat 36 = .ok (.getfield 19, 3) := by decide +kernel
theorem dX8_coat_39 : decode cX8_coat 39 = .ok (.getfield 92, 3) := by decide +kernel
theorem dX8_coat_42 : decode cX8_coat 42 = .ok (.iload_n 1, 1) := by decide +kernel
theorem dX8_coat_43 : decode cX8_coat 43 = .ok (.aaload, 1) := by decide +kernel
theorem dX8_coat_44 : decode cX8_coat 44 = .ok (.iconst 0, 1) := by decide +kernel
theorem dX8_coat_45 : decode cX8_coat 45 = .ok (.putfield 203, 3) := by decide +kernel
theorem dX8_coat_48 : decode cX8_coat 48 = .ok (.sipush 1000, 3) := by decide +kernel
theorem dX8_coat_51 : decode cX8_coat 51 = .ok (.aload_n 0, 1) := by decide +kernel
theorem dX8_coat_52 : decode cX8_coat 52 = .ok (.getfield 10, 3) := by decide +kernel
theorem dX8_coat_55 : decode cX8_coat 55 = .ok (.iload_n 1, 1) := by decide +kernel
theorem dX8_coat_56 : decode cX8_coat 56 = .ok (.iload_n 2, 1) := by decide +kernel
theorem dX8_coat_57 : decode cX8_coat 57 = .ok (.invokevirtual 117, 3) := by decide +kernel
theorem dX8_coat_60 : decode cX8_coat 60 = .ok (.iadd, 1) := by decide +kernel
theorem dX8_coat_61 : decode cX8_coat 61 = .ok (.aload_n 0, 1) := by decide +kernel
theorem dX8_coat_62 : decode cX8_coat 62 = .ok (.getfield 19, 3) := by decide +kernel
theorem dX8_coat_65 : decode cX8_coat 65 = .ok (.iload_n 1, 1) := by decide +kernel
theorem dX8_coat_66 : decode cX8_coat 66 = .ok (.iload_n 2, 1) := by decide +kernel
theorem dX8_coat_67 : decode cX8_coat 67 = .ok (.invokevirtual 117, 3) := by decide +kernel
theorem dX8_coat_70 : decode cX8_coat 70 = .ok (.isub, 1) := by decide +kernel
theorem dX8_coat_71 : decode cX8_coat 71 = .ok (.aload_n 0, 1) := by decide +kernel
theorem dX8_coat_72 : decode cX8_coat 72 = .ok (.getfield 10, 3) := by decide +kernel
theorem dX8_coat_75 : decode cX8_coat 75 = .ok (.getfield 75, 3) := by decide +kernel
theorem dX8_coat_78 : decode cX8_coat 78 = .ok (.isub, 1) := by decide +kernel
theorem dX8_coat_79 : decode cX8_coat 79 = .ok (.ireturn, 1) := by decide +kernel
theorem dX8_mood_0 : decode cX8_mood 0 = .ok (.aload_n 0, 1) := by decide +kernel
theorem dX8_mood_1 : decode cX8_mood 1 = .ok (.getfield 10, 3) := by decide +kernel
theorem dX8_mood_4 : decode cX8_mood 4 = .ok (.iload_n 1, 1) := by decide +kernel
theorem dX8_mood_5 : decode cX8_mood 5 = .ok (.invokevirtual 89, 3) := by decide +kernel
theorem dX8_mood_8 : decode cX8_mood 8 = .ok (.ifCond .eq 14, 3) := by decide +kernel
theorem dX8_mood_11 : decode cX8_mood 11 = .ok (.iload_n 2, 1) := by decide +kernel
theorem dX8_mood_12 : decode cX8_mood 12 = .ok (.iconst 1, 1) := by decide +kernel
theorem dX8_mood_13 : decode cX8_mood 13 = .ok (.if_icmp .lt 9, 3) := by decide +kernel
theorem dX8_mood_16 : decode cX8_mood 16 = .ok (.iload_n 2, 1) := by decide +kernel
theorem dX8_mood_17 : decode cX8_mood 17 = .ok (.bipush 60, 2) := by decide +kernel
theorem dX8_mood_19 : decode cX8_mood 19 = .ok (.if_icmp .le 9, 3) := by decide +kernel
theorem dX8_mood_22 : decode cX8_mood 22 = .ok (.aload_n 0, 1) := by decide +kernel
theorem dX8_mood_23 : decode cX8_mood 23 = .ok (.iconst 0, 1) := by decide +kernel
theorem dX8_mood_24 : decode cX8_mood 24 = .ok (.invokevirtual 61, 3) := by decide +kernel
theorem dX8_mood_27 : decode cX8_mood 27 = .ok (.ireturn, 1) := by decide +kernel
theorem dX8_mood_28 : decode cX8_mood 28 = .ok (.aload_n 0, 1) := by decide +kernel
theorem dX8_mood_29 : decode cX8_mood 29 = .ok (.getfield 10, 3) := by decide +kernel
theorem dX8_mood_32 : decode cX8_mood 32 = .ok (.getfield 92, 3) := by decide +kernel
theorem dX8_mood_35 : decode cX8_mood 35 = .ok (.iload_n 1, 1) := by decide +kernel
theorem dX8_mood_36 : decode cX8_mood 36 = .ok (.aaload, 1) := by decide +kernel
theorem dX8_mood_37 : decode cX8_mood 37 = .ok (.invokevirtual 124, 3) := by decide +kernel
theorem dX8_mood_40 : decode cX8_mood 40 = .ok (.ifCond .ne 9, 3) := by decide +kernel
theorem dX8_mood_43 : decode cX8_mood 43 = .ok (.aload_n 0, 1) := by decide +kernel
theorem dX8_mood_44 : decode cX8_mood 44 = .ok (.iconst 4, 1) := by decide +kernel
theorem dX8_mood_45 : decode cX8_mood 45 = .ok (.invokevirtual 61, 3) := by decide +kernel
theorem dX8_mood_48 : decode cX8_mood 48 = .ok (.ireturn, 1) := by decide +kernel
theorem dX8_mood_49 : decode cX8_mood 49 = .ok (.iconst 0, 1) := by decide +kernel
theorem dX8_mood_50 : decode cX8_mood 50 = .ok (.istore_n 3, 1) := by decide +kernel
theorem dX8_mood_51 : decode cX8_mood 51 = .ok (.iload_n 3, 1) := by decide +kernel
theorem dX8_mood_52 : decode cX8_mood 52 = .ok (.bipush 9, 2) := by decide +kernel
theorem dX8_mood_54 : decode cX8_mood 54 = .ok (.if_icmp .gt 44, 3) := by decide +kernel
theorem dX8_mood_57 : decode cX8_mood 57 = .ok (.aload_n 0, 1) := by decide +kernel
theorem dX8_mood_58 : decode cX8_mood 58 = .ok (.getfield 19, 3) := by decide +kernel
theorem dX8_mood_61 : decode cX8_mood 61 = .ok (.aload_n 0, 1) := by decide +kernel
theorem dX8_mood_62 : decode cX8_mood 62 = .ok (.getfield 10, 3) := by decide +kernel
theorem dX8_mood_65 : decode cX8_mood 65 = .ok (.invokevirtual 165, 3) := by decide +kernel
theorem dX8_mood_68 : decode cX8_mood 68 = .ok (.aload_n 0, 1) := by decide +kernel
theorem dX8_mood_69 : decode cX8_mood 69 = .ok (.getfield 19, 3) := by decide +kernel
theorem dX8_mood_72 : decode cX8_mood 72 = .ok (.getfield 92, 3) := by decide +kernel
theorem dX8_mood_75 : decode cX8_mood 75 = .ok (.iload_n 1, 1) := by decide +kernel
theorem dX8_mood_76 : decode cX8_mood 76 = .ok (.aaload, 1) := by decide +kernel
theorem dX8_mood_77 : decode cX8_mood 77 = .ok (.iload_n 3, 1) := by decide +kernel
theorem dX8_mood_78 : decode cX8_mood 78 = .ok (.putfield 114, 3) := by decide +kernel
theorem dX8_mood_81 : decode cX8_mood 81 = .ok (.aload_n 0, 1) := by decide +kernel
theorem dX8_mood_82 : decode cX8_mood 82 = .ok (.iload_n 1, 1) := by decide +kernel
theorem dX8_mood_83 : decode cX8_mood 83 = .ok (.iload_n 2, 1) := by decide +kernel
theorem dX8_mood_84 : decode cX8_mood 84 = .ok (.invokevirtual 200, 3) := by decide +kernel
theorem dX8_mood_87 : decode cX8_mood 87 = .ok (.ifCond .eq 5, 3) := by decide +kernel
theorem dX8_mood_90 : decode cX8_mood 90 = .ok (.iload_n 3, 1) := by decide +kernel
theorem dX8_mood_91 : decode cX8_mood 91 = .ok (.ireturn, 1) := by decide +kernel
theorem dX8_mood_92 : decode cX8_mood 92 = .ok (.iinc 3 1, 3) := by decide +kernel
theorem dX8_mood_95 : decode cX8_mood 95 = .ok (.goto (-44), 3) := by decide +kernel
theorem dX8_mood_98 : decode cX8_mood 98 = .ok (.aload_n 0, 1) := by decide +kernel
theorem dX8_mood_99 : decode cX8_mood 99 = .ok (.iconst 3, 1) := by decide +kernel
theorem dX8_mood_100 : decode cX8_mood 100 = .ok (.invokevirtual 61, 3) := by decide +kernel
theorem dX8_mood_103 : decode cX8_mood 103 = .ok (.ireturn, 1) := by decide +kernel
theorem dX8_worst_0 : decode cX8_worst 0 = .ok (.iload_n 1, 1) := by decide +kernel
theorem dX8_worst_1 : decode cX8_worst 1 = .ok (.ifCond .lt 9, 3) := by decide +kernel
theorem dX8_worst_4 : decode cX8_worst 4 = .ok (.iload_n 1, 1) := by decide +kernel
theorem dX8_worst_5 : decode cX8_worst 5 = .ok (.bipush 60, 2) := by decide +kernel
theorem dX8_worst_7 : decode cX8_worst 7 = .ok (.if_icmp .le 9, 3) := by decide +kernel
theorem dX8_worst_10 : decode cX8_worst 10 = .ok (.aload_n 0, 1) := by decide +kernel
theorem dX8_worst_11 : decode cX8_worst 11 = .ok (.iconst 0, 1) := by decide +kernel
theorem dX8_worst_12 : decode cX8_worst 12 = .ok (.invokevirtual 61, 3) := by decide +kernel
theorem dX8_worst_15 : decode cX8_worst 15 = .ok (.ireturn, 1) := by decide +kernel
theorem dX8_worst_16 : decode cX8_worst 16 = .ok (.aload_n 0, 1) := by decide +kernel
theorem dX8_worst_17 : decode cX8_worst 17 = .ok (.getfield 19, 3) := by decide +kernel
theorem dX8_worst_20 : decode cX8_worst 20 = .ok (.aload_n 0, 1) := by decide +kernel
theorem dX8_worst_21 : decode cX8_worst 21 = .ok (.getfield 10, 3) := by decide +kernel
theorem dX8_worst_24 : decode cX8_worst 24 = .ok (.invokevirtual 165, 3) := by decide +kernel
theorem dX8_worst_27 : decode cX8_worst 27 = .ok (.aload_n 0, 1) := by decide +kernel
theorem dX8_worst_28 : decode cX8_worst 28 = .ok (.getfield 19, 3) := by decide +kernel
theorem dX8_worst_31 : decode cX8_worst 31 = .ok (.iload_n 1, 1) := by decide +kernel
theorem dX8_worst_32 : decode cX8_worst 32 = .ok (.invokevirtual 149, 3) := by decide +kernel
theorem dX8_worst_35 : decode cX8_worst 35 = .ok (.iconst (-1), 1) := by decide +kernel
theorem dX8_worst_36 : decode cX8_worst 36 = .ok (.istore_n 2, 1) := by decide +kernel
theorem dX8_worst_37 : decode cX8_worst 37 = .ok (.bipush 10, 2) := by decide +kernel
theorem dX8_worst_39 : decode cX8_worst 39 = .ok (.istore_n 3, 1) := by decide +kernel
theorem dX8_worst_40 : decode cX8_worst 40 = .ok (.iconst 0, 1) := by decide +kernel
theorem dX8_worst_41 : decode cX8_worst 41 = .ok (.istore 4, 2) := by decide +kernel
theorem dX8_worst_43 : decode cX8_worst 43 = .ok (.iload 4, 2) := by decide +kernel
theorem dX8_worst_45 : decode cX8_worst 45 = .ok (.aload_n 0, 1) := by decide +kernel
theorem dX8_worst_46 : decode cX8_worst 46 = .ok (.getfield 10, 3) := by decide +kernel
theorem dX8_worst_49 : decode cX8_worst 49 = .ok (.getfield 206, 3) := by decide +kernel
theorem dX8_worst_52 : decode cX8_worst 52 = .ok (.if_icmp .ge 59, 3) := by decide +kernel
theorem dX8_worst_55 : decode cX8_worst 55 = .ok (.aload_n 0, 1) := by decide +kernel
theorem dX8_worst_56 : decode cX8_worst 56 = .ok (.getfield 10, 3) := by decide +kernel
theorem dX8_worst_59 : decode cX8_worst 59 = .ok (.getfield 92, 3) := by decide +kernel
theorem dX8_worst_62 : decode cX8_worst 62 = .ok (.iload 4, 2) := by decide +kernel
theorem dX8_worst_64 : decode cX8_worst 64 = .ok (.aaload, 1) := by decide +kernel
theorem dX8_worst_65 : decode cX8_worst 65 = .ok (.invokevirtual 124, 3) := by decide +kernel
theorem dX8_worst_68 : decode cX8_worst 68 = .ok (.ifCond .eq 37, 3) := by decide +kernel
theorem dX8_worst_71 : decode cX8_worst 71 = .ok (.aload_n 0, 1) := by decide +kernel
theorem dX8_worst_72 : decode cX8_worst 72 = .ok (.getfield 19, 3) := by decide +kernel
theorem dX8_worst_75 : decode cX8_worst 75 = .ok (.getfield 92, 3) := by decide +kernel
theorem dX8_worst_78 : decode cX8_worst 78 = .ok (.iload 4, 2) := by decide +kernel
theorem dX8_worst_80 : decode cX8_worst 80 = .ok (.aaload, 1) := by decide +kernel
theorem dX8_worst_81 : decode cX8_worst 81 = .ok (.getfield 114, 3) := by decide +kernel
theorem dX8_worst_84 : decode cX8_worst 84 = .ok (.iload_n 3, 1) := by decide +kernel
theorem dX8_worst_85 : decode cX8_worst 85 = .ok (.if_icmp .ge 20, 3) := by decide +kernel
theorem dX8_worst_88 : decode cX8_worst 88 = .ok (.iload 4, 2) := by decide +kernel
theorem dX8_worst_90 : decode cX8_worst 90 = .ok (.istore_n 2, 1) := by decide +kernel
theorem dX8_worst_91 : decode cX8_worst 91 = .ok (.aload_n 0, 1) := by decide +kernel
theorem dX8_worst_92 : decode cX8_worst 92 = .ok (.getfield 19, 3) := by decide +kernel
theorem dX8_worst_95 : decode cX8_worst 95 = .ok (.getfield 92, 3) := by decide +kernel
theorem dX8_worst_98 : decode cX8_worst 98 = .ok (.iload 4, 2) := by decide +kernel
theorem dX8_worst_100 : decode cX8_worst 100 = .ok (.aaload, 1) := by decide +kernel
theorem dX8_worst_101 : decode cX8_worst 101 = .ok (.getfield 114, 3) := by decide +kernel
theorem dX8_worst_104 : decode cX8_worst 104 = .ok (.istore_n 3, 1) := by decide +kernel
theorem dX8_worst_105 : decode cX8_worst 105 = .ok (.iinc 4 1, 3) := by decide +kernel
theorem dX8_worst_108 : decode cX8_worst 108 = .ok (.goto (-65), 3) := by decide +kernel
theorem dX8_worst_111 : decode cX8_worst 111 = .ok (.iload_n 2, 1) := by decide +kernel
theorem dX8_worst_112 : decode cX8_worst 112 = .ok (.iconst (-1), 1) := by decide +kernel
theorem dX8_worst_113 : decode cX8_worst 113 = .ok (.if_icmp .ne 11, 3) := by decide +kernel
theorem dX8_worst_116 : decode cX8_worst 116 = .ok (.aload_n 0, 1) := by decide +kernel
theorem dX8_worst_117 : decode cX8_worst 117 = .ok (.iconst 3, 1) := by decide +kernel
theorem dX8_worst_118 : decode cX8_worst 118 = .ok (.invokevirtual 61, 3) := by decide +kernel
theorem dX8_worst_121 : decode cX8_worst 121 = .ok (.goto 4, 3) := by decide +kernel
theorem dX8_worst_124 : decode cX8_worst 124 = .ok (.iload_n 2, 1) := by decide +kernel
theorem dX8_worst_125 : decode cX8_worst 125 = .ok (.ireturn, 1) := by decide +kernel
theorem dX8_feed_0 : decode cX8_feed 0 = .ok (.iload_n 2, 1) := by decide +kernel
theorem dX8_feed_1 : decode cX8_feed 1 = .ok (.iconst 1, 1) := by decide +kernel
theorem dX8_feed_2 : decode cX8_feed 2 = .ok (.if_icmp .lt 8, 3) := by decide +kernel
theorem dX8_feed_5 : decode cX8_feed 5 = .ok (.iload_n 2, 1) := by decide +kernel
theorem dX8_feed_6 : decode cX8_feed 6 = .ok (.iconst 4, 1) := by decide +kernel
theorem dX8_feed_7 : decode cX8_feed 7 = .ok (.if_icmp .le 9, 3) := by decide +kernel
theorem dX8_feed_10 : decode cX8_feed 10 = .ok (.aload_n 0, 1) := by decide +kernel
theorem dX8_feed_11 : decode cX8_feed 11 = .ok (.iconst 0, 1) := by decide +kernel
theorem dX8_feed_12 : decode cX8_feed 12 = .ok (.invokevirtual 61, 3) := by decide +kernel
theorem dX8_feed_15 : decode cX8_feed 15 = .ok (.ireturn, 1) := by decide +kernel
theorem dX8_feed_16 : decode cX8_feed 16 = .ok (.aload_n 0, 1) := by decide +kernel
theorem dX8_feed_17 : decode cX8_feed 17 = .ok (.getfield 25, 3) := by decide +kernel
theorem dX8_feed_20 : decode cX8_feed 20 = .ok (.getfield 209, 3) := by decide +kernel
theorem dX8_feed_23 : decode cX8_feed 23 = .ok (.getfield 213, 3) := by decide +kernel
theorem dX8_feed_26 : decode cX8_feed 26 = .ok (.iload_n 2, 1) := by decide +kernel
theorem dX8_feed_27 : decode cX8_feed 27 = .ok (.iadd, 1) := by decide +kernel
theorem dX8_feed_28 : decode cX8_feed 28 = .ok (.bipush 120, 2) := by decide +kernel
theorem dX8_feed_30 : decode cX8_feed 30 = .ok (.if_icmp .le 9, 3) := by decide +kernel
theorem dX8_feed_33 : decode cX8_feed 33 = .ok (.aload_n 0, 1) := by decide +kernel
theorem dX8_feed_34 : decode cX8_feed 34 = .ok (.iconst 1, 1) := by decide +kernel
theorem dX8_feed_35 : decode cX8_feed 35 = .ok (.invokevirtual 61, 3) := by decide +kernel
theorem dX8_feed_38 : decode cX8_feed 38 = .ok (.ireturn, 1) := by decide +kernel
theorem dX8_feed_39 : decode cX8_feed 39 = .ok (.iload_n 2, 1) := by decide +kernel
theorem dX8_feed_40 : decode cX8_feed 40 = .ok (.iconst 1, 1) := by decide +kernel
theorem dX8_feed_41 : decode cX8_feed 41 = .ok (.isub, 1) := by decide +kernel
theorem dX8_feed_42 : decode cX8_feed 42 = .ok (.istore_n 3, 1) := by decide +kernel
theorem dX8_feed_43 : decode cX8_feed 43 = .ok (.iload_n 3, 1) := by decide +kernel
theorem dX8_feed_44 : decode cX8_feed 44 = .ok (.ifCond .lt 29, 3) := by decide +kernel
theorem dX8_feed_47 : decode cX8_feed 47 = .ok (.aload_n 0, 1) := by decide +kernel
theorem dX8_feed_48 : decode cX8_feed 48 = .ok (.getfield 25, 3) := by decide +kernel
theorem dX8_feed_51 : decode cX8_feed 51 = .ok (.getfield 209, 3) := by decide +kernel
theorem dX8_feed_54 : decode cX8_feed 54 = .ok (.iload_n 1, 1) := by decide +kernel
theorem dX8_feed_55 : decode cX8_feed 55 = .ok (.bipush 8, 2) := by decide +kernel
theorem dX8_feed_57 : decode cX8_feed 57 = .ok (.iload_n 3, 1) := by decide +kernel
theorem dX8_feed_58 : decode cX8_feed 58 = .ok (.imul, 1) := by decide +kernel
theorem dX8_feed_59 : decode cX8_feed 59 = .ok (.iushr, 1) := by decide +kernel
theorem dX8_feed_60 : decode cX8_feed 60 = .ok (.sipush 255, 3) := by decide +kernel
theorem dX8_feed_63 : decode cX8_feed 63 = .ok (.iand, 1) := by decide +kernel
theorem dX8_feed_64 : decode cX8_feed 64 = .ok (.invokevirtual 218, 3) := by decide +kernel
theorem dX8_feed_67 : decode cX8_feed 67 = .ok (.iinc 3 (-1), 3) := by decide +kernel
theorem dX8_feed_70 : decode cX8_feed 70 = .ok (.goto (-27), 3) := by decide +kernel
theorem dX8_feed_73 : decode cX8_feed 73 = .ok (.aload_n 0, 1) := by decide +kernel
theorem dX8_feed_74 : decode cX8_feed 74 = .ok (.getfield 25, 3) := by decide +kernel
theorem dX8_feed_77 : decode cX8_feed 77 = .ok (.getfield 209, 3) := by decide +kernel
theorem dX8_feed_80 : decode cX8_feed 80 = .ok (.getfield 213, 3) := by decide +kernel
theorem dX8_feed_83 : decode cX8_feed 83 = .ok (.ireturn, 1) := by decide +kernel
theorem dX8_wipe_0 : decode cX8_wipe 0 = .ok (.aload_n 0, 1) := by decide +kernel
theorem dX8_wipe_1 : decode cX8_wipe 1 = .ok (.getfield 25, 3) := by decide +kernel
theorem dX8_wipe_4 : decode cX8_wipe 4 = .ok (.getfield 209, 3) := by decide +kernel
theorem dX8_wipe_7 : decode cX8_wipe 7 = .ok (.getfield 213, 3) := by decide +kernel
theorem dX8_wipe_10 : decode cX8_wipe 10 = .ok (.istore_n 1, 1) := by decide +kernel
theorem dX8_wipe_11 : decode cX8_wipe 11 = .ok (.aload_n 0, 1) := by decide +kernel
theorem dX8_wipe_12 : decode cX8_wipe 12 = .ok (.getfield 25, 3) := by decide +kernel
theorem dX8_wipe_15 : decode cX8_wipe 15 = .ok (.getfield 209, 3) := by decide +kernel
theorem dX8_wipe_18 : decode cX8_wipe 18 = .ok (.iconst 0, 1) := by decide +kernel
theorem dX8_wipe_19 : decode cX8_wipe 19 = .ok (.putfield 213, 3) := by decide +kernel
theorem dX8_wipe_22 : decode cX8_wipe 22 = .ok (.iload_n 1, 1) := by decide +kernel
theorem dX8_wipe_23 : decode cX8_wipe 23 = .ok (.ireturn, 1) := by decide +kernel
theorem dX8_car_0 : decode cX8_car 0 = .ok (.aload_n 0, 1) := by decide +kernel
theorem dX8_car_1 : decode cX8_car 1 = .ok (.getfield 19, 3) := by decide +kernel
theorem dX8_car_4 : decode cX8_car 4 = .ok (.aload_n 0, 1) := by decide +kernel
theorem dX8_car_5 : decode cX8_car 5 = .ok (.getfield 10, 3) := by decide +kernel
theorem dX8_car_8 : decode cX8_car 8 = .ok (.invokevirtual 165, 3) := by decide +kernel
theorem dX8_car_11 : decode cX8_car 11 = .ok (.aload_n 0, 1) := by decide +kernel
theorem dX8_car_12 : decode cX8_car 12 = .ok (.getfield 25, 3) := by decide +kernel
theorem dX8_car_15 : decode cX8_car 15 = .ok (.aload_n 0, 1) := by decide +kernel
theorem dX8_car_16 : decode cX8_car 16 = .ok (.getfield 19, 3) := by decide +kernel
theorem dX8_car_19 : decode cX8_car 19 = .ok (.invokevirtual 220, 3) := by decide +kernel
theorem dX8_car_22 : decode cX8_car 22 = .ok (.istore_n 1, 1) := by decide +kernel
theorem dX8_car_23 : decode cX8_car 23 = .ok (.aload_n 0, 1) := by decide +kernel
theorem dX8_car_24 : decode cX8_car 24 = .ok (.getfield 25, 3) := by decide +kernel
theorem dX8_car_27 : decode cX8_car 27 = .ok (.getfield 209, 3) := by decide +kernel
theorem dX8_car_30 : decode cX8_car 30 = .ok (.iconst 0, 1) := by decide +kernel
theorem dX8_car_31 : decode cX8_car 31 = .ok (.putfield 213, 3) := by decide +kernel
theorem dX8_car_34 : decode cX8_car 34 = .ok (.aload_n 0, 1) := by decide +kernel
theorem dX8_car_35 : decode cX8_car 35 = .ok (.getfield 25, 3) := by decide +kernel
theorem dX8_car_38 : decode cX8_car 38 = .ok (.invokevirtual 224, 3) := by decide +kernel
theorem dX8_car_41 : decode cX8_car 41 = .ok (.ifCond .eq 13, 3) := by decide +kernel
theorem dX8_car_44 : decode cX8_car 44 = .ok (.iconst (-1), 1) := by decide +kernel
theorem dX8_car_45 : decode cX8_car 45 = .ok (.aload_n 0, 1) := by decide +kernel
theorem dX8_car_46 : decode cX8_car 46 = .ok (.getfield 25, 3) := by decide +kernel
theorem dX8_car_49 : decode cX8_car 49 = .ok (.getfield 227, 3) := by decide +kernel
theorem dX8_car_52 : decode cX8_car 52 = .ok (.isub, 1) := by decide +kernel
theorem dX8_car_53 : decode cX8_car 53 = .ok (.ireturn, 1) := by decide +kernel
theorem dX8_car_54 : decode cX8_car 54 = .ok (.aload_n 0, 1) := by decide +kernel
theorem dX8_car_55 : decode cX8_car 55 = .ok (.getfield 10, 3) := by decide +kernel
theorem dX8_car_58 : decode cX8_car 58 = .ok (.aload_n 0, 1) := by decide +kernel
theorem dX8_car_59 : decode cX8_car 59 = .ok (.getfield 19, 3) := by decide +kernel
theorem dX8_car_62 : decode cX8_car 62 = .ok (.invokevirtual 165, 3) := by decide +kernel
theorem dX8_car_65 : decode cX8_car 65 = .ok (.iload_n 1, 1) := by decide +kernel
theorem dX8_car_66 : decode cX8_car 66 = .ok (.ireturn, 1) := by decide +kernel
theorem dX8_sheet_0 : decode cX8_sheet 0 = .ok (.iload_n 1, 1) := by decide +kernel
theorem dX8_sheet_1 : decode cX8_sheet 1 = .ok (.invokestatic 230, 3) := by decide +kernel
theorem dX8_sheet_4 : decode cX8_sheet 4 = .ok (.ifCond .eq 25, 3) := by decide +kernel
theorem dX8_sheet_7 : decode cX8_sheet 7 = .ok (.iload_n 2, 1) := by decide +kernel
theorem dX8_sheet_8 : decode cX8_sheet 8 = .ok (.ifCond .eq 27, 3) := by decide +kernel
theorem dX8_sheet_11 : decode cX8_sheet 11 = .ok (.iload_n 2, 1) := by decide +kernel
theorem dX8_sheet_12 : decode cX8_sheet 12 = .ok (.bipush 8, 2) := by decide +kernel
theorem dX8_sheet_14 : decode cX8_sheet 14 = .ok (.if_icmp .eq 21, 3) := by decide +kernel
theorem dX8_sheet_17 : decode cX8_sheet 17 = .ok (.iload_n 2, 1) := by decide +kernel
theorem dX8_sheet_18 : decode cX8_sheet 18 = .ok (.bipush 16, 2) := by decide +kernel
theorem dX8_sheet_20 : decode cX8_sheet 20 = .ok (.if_icmp .eq 15, 3) := by decide +kernel
theorem dX8_sheet_23 : decode cX8_sheet 23 = .ok (.iload_n 2, 1) := by decide +kernel
theorem dX8_sheet_24 : decode cX8_sheet 24 = .ok (.bipush 64, 2) := by decide +kernel
theorem dX8_sheet_26 : decode cX8_sheet 26 = .ok (.if_icmp .eq 9, 3) := by decide +kernel
theorem dX8_sheet_29 : decode cX8_sheet 29 = .ok (.aload_n 0, 1) := by decide +kernel
theorem dX8_sheet_30 : decode cX8_sheet 30 = .ok (.iconst 0, 1) := by decide +kernel
theorem dX8_sheet_31 : decode cX8_sheet 31 = .ok (.invokevirtual 61, 3) := by decide +kernel
theorem dX8_sheet_34 : decode cX8_sheet 34 = .ok (.ireturn, 1) := by decide +kernel
theorem dX8_sheet_35 : decode cX8_sheet 35 = .ok (.iload_n 3, 1) := by decide +kernel
theorem dX8_sheet_36 : decode cX8_sheet 36 = .ok (.ifCond .ge 10, 3) := by decide +kernel
theorem dX8_sheet_39 : decode cX8_sheet 39 = .ok (.aload_n 0, 1) := by decide +kernel
theorem dX8_sheet_40 : decode cX8_sheet 40 = .ok (.bipush 6, 2) := by decide +kernel
theorem dX8_sheet_42 : decode cX8_sheet 42 = .ok (.invokevirtual 61, 3) := by decide +kernel
theorem dX8_sheet_45 : decode cX8_sheet 45 = .ok (.ireturn, 1) := by decide +kernel
theorem dX8_sheet_46 : decode cX8_sheet 46 = .ok (.iload_n 3, 1) := by decide +kernel
theorem dX8_sheet_47 : decode cX8_sheet 47 = .ok (.bipush 40, 2) := by decide +kernel
theorem dX8_sheet_49 : decode cX8_sheet 49 = .ok (.if_icmp .le 9, 3) := by decide +kernel
theorem dX8_sheet_52 : decode cX8_sheet 52 = .ok (.aload_n 0, 1) := by decide +kernel
theorem dX8_sheet_53 : decode cX8_sheet 53 = .ok (.iconst 0, 1) := by decide +kernel
theorem dX8_sheet_54 : decode cX8_sheet 54 = .ok (.invokevirtual 61, 3) := by decide +kernel
theorem dX8_sheet_57 : decode cX8_sheet 57 = .ok (.ireturn, 1) := by decide +kernel
theorem dX8_sheet_58 : decode cX8_sheet 58 = .ok (.aload_n 0, 1) := by decide +kernel
theorem dX8_sheet_59 : decode cX8_sheet 59 = .ok (.getfield 38, 3) := by decide +kernel
theorem dX8_sheet_62 : decode cX8_sheet 62 = .ok (.iload_n 1, 1) := by decide +kernel
theorem dX8_sheet_63 : decode cX8_sheet 63 = .ok (.aaload, 1) := by decide +kernel
theorem dX8_sheet_64 : decode cX8_sheet 64 = .ok (.iload_n 2, 1) := by decide +kernel
theorem dX8_sheet_65 : decode cX8_sheet 65 = .ok (.iload_n 2, 1) := by decide +kernel
theorem dX8_sheet_66 : decode cX8_sheet 66 = .ok (.ifCond .ne 7, 3) := by decide +kernel
theorem dX8_sheet_69 : decode cX8_sheet 69 = .ok (.iconst 0, 1) := by decide +kernel
theorem dX8_sheet_70 : decode cX8_sheet 70 = .ok (.goto 4, 3) := by decide +kernel
theorem dX8_sheet_73 : decode cX8_sheet 73 = .ok (.iload_n 3, 1) := by decide +kernel
theorem dX8_sheet_74 : decode cX8_sheet 74 = .ok (.invokevirtual 233, 3) := by decide +kernel
theorem dX8_sheet_77 : decode cX8_sheet 77 = .ok (.aload_n 0, 1) := by decide +kernel
theorem dX8_sheet_78 : decode cX8_sheet 78 = .ok (.getfield 38, 3) := by decide +kernel
theorem dX8_sheet_81 : decode cX8_sheet 81 = .ok (.iload_n 1, 1) := by decide +kernel
theorem dX8_sheet_82 : decode cX8_sheet 82 = .ok (.aaload, 1) := by decide +kernel
theorem dX8_sheet_83 : decode cX8_sheet 83 = .ok (.getfield 236, 3) := by decide +kernel
theorem dX8_sheet_86 : decode cX8_sheet 86 = .ok (.ireturn, 1) := by decide +kernel
theorem dX8_write_0 : decode cX8_write 0 = .ok (.iload_n 1, 1) := by decide +kernel
theorem dX8_write_1 : decode cX8_write 1 = .ok (.invokestatic 230, 3) := by decide +kernel
theorem dX8_write_4 : decode cX8_write 4 = .ok (.ifCond .ne 10, 3) := by decide +kernel
theorem dX8_write_7 : decode cX8_write 7 = .ok (.aload_n 0, 1) := by decide +kernel
theorem dX8_write_8 : decode cX8_write 8 = .ok (.iconst 0, 1) := by decide +kernel
theorem dX8_write_9 : decode cX8_write 9 = .ok (.invokevirtual 61, 3) := by decide +kernel
theorem dX8_write_12 : decode cX8_write 12 = .ok (.i2l, 1) := by decide +kernel
theorem dX8_write_13 : decode cX8_write 13 = .ok (.lreturn, 1) := by decide +kernel
theorem dX8_write_14 : decode cX8_write 14 = .ok (.aload_n 0, 1) := by decide +kernel
theorem dX8_write_15 : decode cX8_write 15 = .ok (.getfield 38, 3) := by decide +kernel
theorem dX8_write_18 : decode cX8_write 18 = .ok (.iload_n 1, 1) := by decide +kernel
theorem dX8_write_19 : decode cX8_write 19 = .ok (.aaload, 1) := by decide +kernel
theorem dX8_write_20 : decode cX8_write 20 = .ok (.invokevirtual 237, 3) := by decide +kernel
theorem dX8_write_23 : decode cX8_write 23 = .ok (.ifCond .eq 10, 3) := by decide +kernel
theorem dX8_write_26 : decode cX8_write 26 = .ok (.aload_n 0, 1) := by decide +kernel
theorem dX8_write_27 : decode cX8_write 27 = .ok (.iconst 5, 1) := by decide +kernel
theorem dX8_write_28 : decode cX8_write 28 = .ok (.invokevirtual 61, 3) := by decide +kernel
theorem dX8_write_31 : decode cX8_write 31 = .ok (.i2l, 1) := by decide +kernel
theorem dX8_write_32 : decode cX8_write 32 = .ok (.lreturn, 1) := by decide +kernel
theorem dX8_write_33 : decode cX8_write 33 = .ok (.iload_n 2, 1) := by decide +kernel
theorem dX8_write_34 : decode cX8_write 34 = .ok (.ifCond .lt 16, 3) := by decide +kernel
theorem dX8_write_37 : decode cX8_write 37 = .ok (.iload_n 2, 1) := by decide +kernel
theorem dX8_write_38 : decode cX8_write 38 = .ok (.aload_n 0, 1) := by decide +kernel
theorem dX8_write_39 : decode cX8_write 39 = .ok (.getfield 38, 3) := by decide +kernel
theorem dX8_write_42 : decode cX8_write 42 = .ok (.iload_n 1, 1) := by decide +kernel
theorem dX8_write_43 : decode cX8_write 43 = .ok (.aaload, 1) := by decide +kernel
theorem dX8_write_44 : decode cX8_write 44 = .ok (.getfield 236, 3) := by decide +kernel
theorem dX8_write_47 : decode cX8_write 47 = .ok (.if_icmp .lt 10, 3) := by decide +kernel
theorem dX8_write_50 : decode cX8_write 50 = .ok (.aload_n 0, 1) := by decide +kernel
theorem dX8_write_51 : decode cX8_write 51 = .ok (.iconst 0, 1) := by decide +kernel
theorem dX8_write_52 : decode cX8_write 52 = .ok (.invokevirtual 61, 3) := by decide +kernel
theorem dX8_write_55 : decode cX8_write 55 = .ok (.i2l, 1) := by decide +kernel
theorem dX8_write_56 : decode cX8_write 56 = .ok (.lreturn, 1) := by decide +kernel
theorem dX8_write_57 : decode cX8_write 57 = .ok (.aload_n 0, 1) := by decide +kernel
theorem dX8_write_58 : decode cX8_write 58 = .ok (.getfield 38, 3) := by decide +kernel
theorem dX8_write_61 : decode cX8_write 61 = .ok (.iload_n 1, 1) := by decide +kernel
theorem dX8_write_62 : decode cX8_write 62 = .ok (.aaload, 1) := by decide +kernel
theorem dX8_write_63 : decode cX8_write 63 = .ok (.getfield 240, 3) := by decide +kernel
theorem dX8_write_66 : decode cX8_write 66 = .ok (.iload_n 2, 1) := by decide +kernel
theorem dX8_write_67 : decode cX8_write 67 = .ok (.laload, 1) := by decide +kernel
theorem dX8_write_68 : decode cX8_write 68 = .ok (.lstore 5, 2) := by decide +kernel
theorem dX8_write_70 : decode cX8_write 70 = .ok (.aload_n 0, 1) := by decide +kernel
theorem dX8_write_71 : decode cX8_write 71 = .ok (.getfield 38, 3) := by decide +kernel
theorem dX8_write_74 : decode cX8_write 74 = .ok (.iload_n 1, 1) := by decide +kernel
theorem dX8_write_75 : decode cX8_write 75 = .ok (.aaload, 1) := by decide +kernel
theorem dX8_write_76 : decode cX8_write 76 = .ok (.iload_n 2, 1) := by decide +kernel
theorem dX8_write_77 : decode cX8_write 77 = .ok (.lload_n 3, 1) := by decide +kernel
theorem dX8_write_78 : decode cX8_write 78 = .ok (.invokevirtual 244, 3) := by decide +kernel
theorem dX8_write_81 : decode cX8_write 81 = .ok (.lload 5, 2) := by decide +kernel
theorem dX8_write_83 : decode cX8_write 83 = .ok (.lreturn, 1) := by decide +kernel
theorem dX8_copy_0 : decode cX8_copy 0 = .ok (.iload_n 1, 1) := by decide +kernel
theorem dX8_copy_1 : decode cX8_copy 1 = .ok (.invokestatic 230, 3) := by decide +kernel
theorem dX8_copy_4 : decode cX8_copy 4 = .ok (.ifCond .eq 10, 3) := by decide +kernel
theorem dX8_copy_7 : decode cX8_copy 7 = .ok (.iload_n 3, 1) := by decide +kernel
theorem dX8_copy_8 : decode cX8_copy 8 = .ok (.invokestatic 230, 3) := by decide +kernel
theorem dX8_copy_11 : decode cX8_copy 11 = .ok (.ifCond .ne 9, 3) := by decide +kernel
theorem dX8_copy_14 : decode cX8_copy 14 = .ok (.aload_n 0, 1) := by decide +kernel
theorem dX8_copy_15 : decode cX8_copy 15 = .ok (.iconst 0, 1) := by decide +kernel
theorem dX8_copy_16 : decode cX8_copy 16 = .ok (.invokevirtual 61, 3) := by decide +kernel
theorem dX8_copy_19 : decode cX8_copy 19 = .ok (.ireturn, 1) := by decide +kernel
theorem dX8_copy_20 : decode cX8_copy 20 = .ok (.aload_n 0, 1) := by decide +kernel
theorem dX8_copy_21 : decode cX8_copy 21 = .ok (.getfield 38, 3) := by decide +kernel
theorem dX8_copy_24 : decode cX8_copy 24 = .ok (.iload_n 1, 1) := by decide +kernel
theorem dX8_copy_25 : decode cX8_copy 25 = .ok (.aaload, 1) := by decide +kernel
theorem dX8_copy_26 : decode cX8_copy 26 = .ok (.invokevirtual 237, 3) := by decide +kernel
theorem dX8_copy_29 : decode cX8_copy 29 = .ok (.ifCond .ne 15, 3) := by decide +kernel
theorem dX8_copy_32 : decode cX8_copy 32 = .ok (.aload_n 0, 1) := by decide +kernel
theorem dX8_copy_33 : decode cX8_copy 33 = .ok (.getfield 38, 3) := by decide +kernel
theorem dX8_copy_36 : decode cX8_copy 36 = .ok (.iload_n 3, 1) := by decide +kernel
theorem dX8_copy_37 : decode cX8_copy 37 = .ok (.aaload, 1) := by decide +kernel
theorem dX8_copy_38 : decode cX8_copy 38 = .ok (.invokevirtual 237, 3) := by decide +kernel
theorem dX8_copy_41 : decode cX8_copy 41 = .ok (.ifCond .eq 9, 3) := by decide +kernel
theorem dX8_copy_44 : decode cX8_copy 44 = .ok (.aload_n 0, 1) := by decide +kernel
theorem dX8_copy_45 : decode cX8_copy 45 = .ok (.iconst 5, 1) := by decide +kernel
theorem dX8_copy_46 : decode cX8_copy 46 = .ok (.invokevirtual 61, 3) := by decide +kernel
theorem dX8_copy_49 : decode cX8_copy 49 = .ok (.ireturn, 1) := by decide +kernel
theorem dX8_copy_50 : decode cX8_copy 50 = .ok (.aload_n 0, 1) := by decide +kernel
theorem dX8_copy_51 : decode cX8_copy 51 = .ok (.getfield 38, 3) := by decide +kernel
theorem dX8_copy_54 : decode cX8_copy 54 = .ok (.iload_n 1, 1) := by decide +kernel
theorem dX8_copy_55 : decode cX8_copy 55 = .ok (.aaload, 1) := by decide +kernel
theorem dX8_copy_56 : decode cX8_copy 56 = .ok (.getfield 247, 3) := by decide +kernel
theorem dX8_copy_59 : decode cX8_copy 59 = .ok (.aload_n 0, 1) := by decide +kernel
theorem dX8_copy_60 : decode cX8_copy 60 = .ok (.getfield 38, 3) := by decide +kernel
theorem dX8_copy_63 : decode cX8_copy 63 = .ok (.iload_n 3, 1) := by decide +kernel
theorem dX8_copy_64 : decode cX8_copy 64 = .ok (.aaload, 1) := by decide +kernel
theorem dX8_copy_65 : decode cX8_copy 65 = .ok (.getfield 247, 3) := by decide +kernel
theorem dX8_copy_68 : decode cX8_copy 68 = .ok (.if_icmp .eq 9, 3) := by decide +kernel
theorem dX8_copy_71 : decode cX8_copy 71 = .ok (.aload_n 0, 1) := by decide +kernel
theorem dX8_copy_72 : decode cX8_copy 72 = .ok (.iconst 2, 1) := by decide +kernel
theorem dX8_copy_73 : decode cX8_copy 73 = .ok (.invokevirtual 61, 3) := by decide +kernel
theorem dX8_copy_76 : decode cX8_copy 76 = .ok (.ireturn, 1) := by decide +kernel
theorem dX8_copy_77 : decode cX8_copy 77 = .ok (.aload_n 0, 1) := by decide +kernel
theorem dX8_copy_78 : decode cX8_copy 78 = .ok (.getfield 38, 3) := by decide +kernel
theorem dX8_copy_81 : decode cX8_copy 81 = .ok (.iload_n 1, 1) := by decide +kernel
theorem dX8_copy_82 : decode cX8_copy 82 = .ok (.aaload, 1) := by decide +kernel
theorem dX8_copy_83 : decode cX8_copy 83 = .ok (.iload_n 2, 1) := by decide +kernel
theorem dX8_copy_84 : decode cX8_copy 84 = .ok (.iload 5, 2) := by decide +kernel
theorem dX8_copy_86 : decode cX8_copy 86 = .ok (.invokevirtual 250, 3) := by decide +kernel
theorem dX8_copy_89 : decode cX8_copy 89 = .ok (.ifCond .eq 19, 3) := by decide +kernel
theorem dX8_copy_92 : decode cX8_copy 92 = .ok (.aload_n 0, 1) := by decide +kernel
theorem dX8_copy_93 : decode cX8_copy 93 = .ok (.getfield 38, 3) := by decide +kernel
theorem dX8_copy_96 : decode cX8_copy 96 = .ok (.iload_n 3, 1) := by decide +kernel
theorem dX8_copy_97 : decode cX8_copy 97 = .ok (.aaload, 1) := by decide +kernel
theorem dX8_copy_98 : decode cX8_copy 98 = .ok (.iload 4, 2) := by decide +kernel
theorem dX8_copy_100 : decode cX8_copy 100 = .ok (.iload 5, 2) := by decide +kernel
theorem dX8_copy_102 : decode cX8_copy 102 = .ok (.invokevirtual 250, 3) := by decide +kernel
theorem dX8_copy_105 : decode cX8_copy 105 = .ok (.ifCond .ne 9, 3) := by decide +kernel
theorem dX8_copy_108 : decode cX8_copy 108 = .ok (.aload_n 0, 1) := by decide +kernel
theorem dX8_copy_109 : decode cX8_copy 109 = .ok (.iconst 0, 1) := by decide +kernel
theorem dX8_copy_110 : decode cX8_copy 110 = .ok (.invokevirtual 61, 3) := by decide +kernel
theorem dX8_copy_113 : decode cX8_copy 113 = .ok (.ireturn, 1) := by decide +kernel
theorem dX8_copy_114 : decode cX8_copy 114 = .ok (.aload_n 0, 1) := by decide +kernel
theorem dX8_copy_115 : decode cX8_copy 115 = .ok (.getfield 38, 3) := by decide +kernel
theorem dX8_copy_118 : decode cX8_copy 118 = .ok (.iload_n 1, 1) := by decide +kernel
theorem dX8_copy_119 : decode cX8_copy 119 = .ok (.aaload, 1) := by decide +kernel
theorem dX8_copy_120 : decode cX8_copy 120 = .ok (.getfield 240, 3) := by decide +kernel
theorem dX8_copy_123 : decode cX8_copy 123 = .ok (.iload_n 2, 1) := by decide +kernel
theorem dX8_copy_124 : decode cX8_copy 124 = .ok (.aload_n 0, 1) := by decide +kernel
theorem dX8_copy_125 : decode cX8_copy 125 = .ok (.getfield 38, 3) := by decide +kernel
theorem dX8_copy_128 : decode cX8_copy 128 = .ok (.iload_n 3, 1) := by decide +kernel
theorem dX8_copy_129 : decode cX8_copy 129 = .ok (.aaload, 1) := by decide +kernel
theorem dX8_copy_130 : decode cX8_copy 130 = .ok (.getfield 240, 3) := by decide +kernel
theorem dX8_copy_133 : decode cX8_copy 133 = .ok (.iload 4, 2) := by decide +kernel
theorem dX8_copy_135 : decode cX8_copy 135 = .ok (.iload 5, 2) := by decide +kernel
theorem dX8_copy_137 : decode cX8_copy 137 = .ok (.invokestatic 253, 3) := by decide +kernel
theorem dX8_copy_140 : decode cX8_copy 140 = .ok (.iload 5, 2) := by decide +kernel
theorem dX8_copy_142 : decode cX8_copy 142 = .ok (.ireturn, 1) := by decide +kernel
theorem dX8_lays_0 : decode cX8_lays 0 = .ok (.iload_n 1, 1) := by decide +kernel
theorem dX8_lays_1 : decode cX8_lays 1 = .ok (.invokestatic 230, 3) := by decide +kernel
theorem dX8_lays_4 : decode cX8_lays 4 = .ok (.ifCond .ne 9, 3) := by decide +kernel
theorem dX8_lays_7 : decode cX8_lays 7 = .ok (.aload_n 0, 1) := by decide +kernel
theorem dX8_lays_8 : decode cX8_lays 8 = .ok (.iconst 0, 1) := by decide +kernel
theorem dX8_lays_9 : decode cX8_lays 9 = .ok (.invokevirtual 61, 3) := by decide +kernel
theorem dX8_lays_12 : decode cX8_lays 12 = .ok (.ireturn, 1) := by decide +kernel
theorem dX8_lays_13 : decode cX8_lays 13 = .ok (.aload_n 0, 1) := by decide +kernel
theorem dX8_lays_14 : decode cX8_lays 14 = .ok (.getfield 38, 3) := by decide +kernel
theorem dX8_lays_17 : decode cX8_lays 17 = .ok (.iload_n 1, 1) := by decide +kernel
theorem dX8_lays_18 : decode cX8_lays 18 = .ok (.aaload, 1) := by decide +kernel
theorem dX8_lays_19 : decode cX8_lays 19 = .ok (.invokevirtual 237, 3) := by decide +kernel
theorem dX8_lays_22 : decode cX8_lays 22 = .ok (.ifCond .eq 9, 3) := by decide +kernel
theorem dX8_lays_25 : decode cX8_lays 25 = .ok (.aload_n 0, 1) := by decide +kernel
theorem dX8_lays_26 : decode cX8_lays 26 = .ok (.iconst 5, 1) := by decide +kernel
theorem dX8_lays_27 : decode cX8_lays 27 = .ok (.invokevirtual 61, 3) := by decide +kernel
theorem dX8_lays_30 : decode cX8_lays 30 = .ok (.ireturn, 1) := by decide +kernel
theorem dX8_lays_31 : decode cX8_lays 31 = .ok (.iconst 0, 1) := by decide +kernel
theorem dX8_lays_32 : decode cX8_lays 32 = .ok (.istore_n 2, 1) := by decide +kernel
theorem dX8_lays_33 : decode cX8_lays 33 = .ok (.iconst 0, 1) := by decide +kernel
theorem dX8_lays_34 : decode cX8_lays 34 = .ok (.istore_n 3, 1) := by decide +kernel
theorem dX8_lays_35 : decode cX8_lays 35 = .ok (.iload_n 3, 1) := by decide +kernel
theorem dX8_lays_36 : decode cX8_lays 36 = .ok (.aload_n 0, 1) := by decide +kernel
theorem dX8_lays_37 : decode cX8_lays 37 = .ok (.getfield 10, 3) := by decide +kernel
theorem dX8_lays_40 : decode cX8_lays 40 = .ok (.getfield 206, 3) := by decide +kernel
theorem dX8_lays_43 : decode cX8_lays 43 = .ok (.if_icmp .ge 69, 3) := by decide +kernel
theorem dX8_lays_46 : decode cX8_lays 46 = .ok (.iload_n 3, 1) := by decide +kernel
theorem dX8_lays_47 : decode cX8_lays 47 = .ok (.aload_n 0, 1) := by decide +kernel
theorem dX8_lays_48 : decode cX8_lays 48 = .ok (.getfield 38, 3) := by decide +kernel
theorem dX8_lays_51 : decode cX8_lays 51 = .ok (.iload_n 1, 1) := by decide +kernel
theorem dX8_lays_52 : decode cX8_lays 52 = .ok (.aaload, 1) := by decide +kernel
theorem dX8_lays_53 : decode cX8_lays 53 = .ok (.getfield 236, 3) := by decide +kernel
theorem dX8_lays_56 : decode cX8_lays 56 = .ok (.if_icmp .ge 56, 3) := by decide +kernel
theorem dX8_lays_59 : decode cX8_lays 59 = .ok (.aload_n 0, 1) := by decide +kernel
theorem dX8_lays_60 : decode cX8_lays 60 = .ok (.getfield 38, 3) := by decide +kernel
theorem dX8_lays_63 : decode cX8_lays 63 = .ok (.iload_n 1, 1) := by decide +kernel
theorem dX8_lays_64 : decode cX8_lays 64 = .ok (.aaload, 1) := by decide +kernel
theorem dX8_lays_65 : decode cX8_lays 65 = .ok (.getfield 240, 3) := by decide +kernel
theorem dX8_lays_68 : decode cX8_lays 68 = .ok (.iload_n 3, 1) := by decide +kernel
theorem dX8_lays_69 : decode cX8_lays 69 = .ok (.laload, 1) := by decide +kernel
theorem dX8_lays_70 : decode cX8_lays 70 = .ok (.lstore 4, 2) := by decide +kernel
theorem dX8_lays_72 : decode cX8_lays 72 = .ok (.lload 4, 2) := by decide +kernel
theorem dX8_lays_74 : decode cX8_lays 74 = .ok (.lconst 0, 1) := by decide +kernel
theorem dX8_lays_75 : decode cX8_lays 75 = .ok (.lcmp, 1) := by decide +kernel
theorem dX8_lays_76 : decode cX8_lays 76 = .ok (.ifCond .lt 30, 3) := by decide +kernel
theorem dX8_lays_79 : decode cX8_lays 79 = .ok (.lload 4, 2) := by decide +kernel
theorem dX8_lays_81 : decode cX8_lays 81 = .ok (.ldc2_w 259, 3) := by decide +kernel
theorem dX8_lays_84 : decode cX8_lays 84 = .ok (.lcmp, 1) := by decide +kernel
theorem dX8_lays_85 : decode cX8_lays 85 = .ok (.ifCond .gt 21, 3) := by decide +kernel
theorem dX8_lays_88 : decode cX8_lays 88 = .ok (.aload_n 0, 1) := by decide +kernel
theorem dX8_lays_89 : decode cX8_lays 89 = .ok (.getfield 10, 3) := by decide +kernel
theorem dX8_lays_92 : decode cX8_lays 92 = .ok (.getfield 92, 3) := by decide +kernel
theorem dX8_lays_95 : decode cX8_lays 95 = .ok (.iload_n 3, 1) := by decide +kernel
theorem dX8_lays_96 : decode cX8_lays 96 = .ok (.aaload, 1) := by decide +kernel
theorem dX8_lays_97 : decode cX8_lays 97 = .ok (.lload 4, 2) := by decide +kernel
theorem dX8_lays_99 : decode cX8_lays 99 = .ok (.l2i, 1) := by decide +kernel
theorem dX8_lays_100 : decode cX8_lays 100 = .ok (.putfield 114, 3) := by decide +kernel
theorem dX8_lays_103 : decode cX8_lays 103 = .ok (.iinc 2 1, 3) := by decide +kernel
theorem dX8_lays_106 : decode cX8_lays 106 = .ok (.iinc 3 1, 3) := by decide +kernel
theorem dX8_lays_109 : decode cX8_lays 109 = .ok (.goto (-74), 3) := by decide +kernel
theorem dX8_lays_112 : decode cX8_lays 112 = .ok (.iload_n 2, 1) := by decide +kernel
theorem dX8_lays_113 : decode cX8_lays 113 = .ok (.ireturn, 1) := by decide +kernel
theorem dX8_book_0 : decode cX8_book 0 = .ok (.iload_n 1, 1) := by decide +kernel
theorem dX8_book_1 : decode cX8_book 1 = .ok (.invokestatic 230, 3) := by decide +kernel
theorem dX8_book_4 : decode cX8_book 4 = .ok (.ifCond .ne 9, 3) := by decide +kernel
theorem dX8_book_7 : decode cX8_book 7 = .ok (.aload_n 0, 1) := by decide +kernel
theorem dX8_book_8 : decode cX8_book 8 = .ok (.iconst 0, 1) := by decide +kernel
theorem dX8_book_9 : decode cX8_book 9 = .ok (.invokevirtual 61, 3) := by decide +kernel
theorem dX8_book_12 : decode cX8_book 12 = .ok (.ireturn, 1) := by decide +kernel
theorem dX8_book_13 : decode cX8_book 13 = .ok (.aload_n 0, 1) := by decide +kernel
theorem dX8_book_14 : decode cX8_book 14 = .ok (.getfield 38, 3) := by decide +kernel
theorem dX8_book_17 : decode cX8_book 17 = .ok (.iload_n 1, 1) := by decide +kernel
theorem dX8_book_18 : decode cX8_book 18 = .ok (.aaload, 1) := by decide +kernel
theorem dX8_book_19 : decode cX8_book 19 = .ok (.invokevirtual 237, 3) := by decide +kernel
theorem dX8_book_22 : decode cX8_book 22 = .ok (.ifCond .eq 9, 3) := by decide +kernel
theorem dX8_book_25 : decode cX8_book 25 = .ok (.aload_n 0, 1) := by decide +kernel
theorem dX8_book_26 : decode cX8_book 26 = .ok (.iconst 5, 1) := by decide +kernel
theorem dX8_book_27 : decode cX8_book 27 = .ok (.invokevirtual 61, 3) := by decide +kernel
theorem dX8_book_30 : decode cX8_book 30 = .ok (.ireturn, 1) := by decide +kernel
theorem dX8_book_31 : decode cX8_book 31 = .ok (.aload_n 0, 1) := by decide +kernel
theorem dX8_book_32 : decode cX8_book 32 = .ok (.getfield 10, 3) := by decide +kernel
theorem dX8_book_35 : decode cX8_book 35 = .ok (.iload_n 2, 1) := by decide +kernel
theorem dX8_book_36 : decode cX8_book 36 = .ok (.invokevirtual 89, 3) := by decide +kernel
theorem dX8_book_39 : decode cX8_book 39 = .ok (.ifCond .ne 9, 3) := by decide +kernel
theorem dX8_book_42 : decode cX8_book 42 = .ok (.aload_n 0, 1) := by decide +kernel
theorem dX8_book_43 : decode cX8_book 43 = .ok (.iconst 0, 1) := by decide +kernel
theorem dX8_book_44 : decode cX8_book 44 = .ok (.invokevirtual 61, 3) := by decide +kernel
theorem dX8_book_47 : decode cX8_book 47 = .ok (.ireturn, 1) := by decide +kernel
theorem dX8_book_48 : decode cX8_book 48 = .ok (.aload_n 0, 1) := by decide +kernel
theorem dX8_book_49 : decode cX8_book 49 = .ok (.getfield 19, 3) := by decide +kernel
theorem dX8_book_52 : decode cX8_book 52 = .ok (.aload_n 0, 1) := by decide +kernel
theorem dX8_book_53 : decode cX8_book 53 = .ok (.getfield 10, 3) := by decide +kernel
theorem dX8_book_56 : decode cX8_book 56 = .ok (.invokevirtual 165, 3) := by decide +kernel
theorem dX8_book_59 : decode cX8_book 59 = .ok (.iconst 0, 1) := by decide +kernel
theorem dX8_book_60 : decode cX8_book 60 = .ok (.istore_n 3, 1) := by decide +kernel
theorem dX8_book_61 : decode cX8_book 61 = .ok (.iload_n 3, 1) := by decide +kernel
theorem dX8_book_62 : decode cX8_book 62 = .ok (.aload_n 0, 1) := by decide +kernel
theorem dX8_book_63 : decode cX8_book 63 = .ok (.getfield 38, 3) := by decide +kernel
theorem dX8_book_66 : decode cX8_book 66 = .ok (.iload_n 1, 1) := by decide +kernel
theorem dX8_book_67 : decode cX8_book 67 = .ok (.aaload, 1) := by decide +kernel
theorem dX8_book_68 : decode cX8_book 68 = .ok (.getfield 236, 3) := by decide +kernel
theorem dX8_book_71 : decode cX8_book 71 = .ok (.if_icmp .ge 39, 3) := by decide +kernel
theorem dX8_book_74 : decode cX8_book 74 = .ok (.aload_n 0, 1) := by decide +kernel
theorem dX8_book_75 : decode cX8_book 75 = .ok (.getfield 38, 3) := by decide +kernel
theorem dX8_book_78 : decode cX8_book 78 = .ok (.iload_n 1, 1) := by decide +kernel
theorem dX8_book_79 : decode cX8_book 79 = .ok (.aaload, 1) := by decide +kernel
theorem dX8_book_80 : decode cX8_book 80 = .ok (.iload_n 3, 1) := by decide +kernel
theorem dX8_book_81 : decode cX8_book 81 = .ok (.aload_n 0, 1) := by decide +kernel
theorem dX8_book_82 : decode cX8_book 82 = .ok (.getfield 19, 3) := by decide +kernel
theorem dX8_book_85 : decode cX8_book 85 = .ok (.getfield 92, 3) := by decide +kernel
theorem dX8_book_88 : decode cX8_book 88 = .ok (.iload_n 2, 1) := by decide +kernel
theorem dX8_book_89 : decode cX8_book 89 = .ok (.aaload, 1) := by decide +kernel
theorem dX8_book_90 : decode cX8_book 90 = .ok (.getfield 114, 3) := by decide +kernel
theorem dX8_book_93 : decode cX8_book 93 = .ok (.i2l, 1) := by decide +kernel
theorem dX8_book_94 : decode cX8_book 94 = .ok (.invokevirtual 244, 3) := by decide +kernel
theorem dX8_book_97 : decode cX8_book 97 = .ok (.aload_n 0, 1) := by decide +kernel
theorem dX8_book_98 : decode cX8_book 98 = .ok (.getfield 19, 3) := by decide +kernel
theorem dX8_book_101 : decode cX8_book 101 = .ok (.invokevirtual 169, 3) := by decide +kernel
theorem dX8_book_104 : decode cX8_book 104 = .ok (.iinc 3 1, 3) := by decide +kernel
theorem dX8_book_107 : decode cX8_book 107 = .ok (.goto (-46), 3) := by decide +kernel
theorem dX8_book_110 : decode cX8_book 110 = .ok (.aload_n 0, 1) := by decide +kernel
theorem dX8_book_111 : decode cX8_book 111 = .ok (.getfield 38, 3) := by decide +kernel
theorem dX8_book_114 : decode cX8_book 114 = .ok (.iload_n 1, 1) := by decide +kernel
theorem dX8_book_115 : decode cX8_book 115 = .ok (.aaload, 1) := by decide +kernel
theorem dX8_book_116 : decode cX8_book 116 = .ok (.getfield 236, 3) := by decide +kernel
theorem dX8_book_119 : decode cX8_book 119 = .ok (.ireturn, 1) := by decide +kernel
theorem dX8_read_0 : decode cX8_read 0 = .ok (.iload_n 1, 1) := by decide +kernel
theorem dX8_read_1 : decode cX8_read 1 = .ok (.invokestatic 230, 3) := by decide +kernel
theorem dX8_read_4 : decode cX8_read 4 = .ok (.ifCond .ne 9, 3) := by decide +kernel
theorem dX8_read_7 : decode cX8_read 7 = .ok (.aload_n 0, 1) := by decide +kernel
theorem dX8_read_8 : decode cX8_read 8 = .ok (.iconst 0, 1) := by decide +kernel
theorem dX8_read_9 : decode cX8_read 9 = .ok (.invokevirtual 61, 3) := by decide +kernel
theorem dX8_read_12 : decode cX8_read 12 = .ok (.ireturn, 1) := by decide +kernel
theorem dX8_read_13 : decode cX8_read 13 = .ok (.aload_n 0, 1) := by decide +kernel
theorem dX8_read_14 : decode cX8_read 14 = .ok (.getfield 38, 3) := by decide +kernel
theorem dX8_read_17 : decode cX8_read 17 = .ok (.iload_n 1, 1) := by decide +kernel
theorem dX8_read_18 : decode cX8_read 18 = .ok (.aaload, 1) := by decide +kernel
theorem dX8_read_19 : decode cX8_read 19 = .ok (.invokevirtual 237, 3) := by decide +kernel
theorem dX8_read_22 : decode cX8_read 22 = .ok (.ifCond .eq 9, 3) := by decide +kernel
theorem dX8_read_25 : decode cX8_read 25 = .ok (.aload_n 0, 1) := by decide +kernel
theorem dX8_read_26 : decode cX8_read 26 = .ok (.iconst 5, 1) := by decide +kernel
theorem dX8_read_27 : decode cX8_read 27 = .ok (.invokevirtual 61, 3) := by decide +kernel
theorem dX8_read_30 : decode cX8_read 30 = .ok (.ireturn, 1) := by decide +kernel
theorem dX8_read_31 : decode cX8_read 31 = .ok (.aload_n 0, 1) := by decide +kernel
theorem dX8_read_32 : decode cX8_read 32 = .ok (.getfield 10, 3) := by decide +kernel
theorem dX8_read_35 : decode cX8_read 35 = .ok (.iload_n 2, 1) := by decide +kernel
theorem dX8_read_36 : decode cX8_read 36 = .ok (.invokevirtual 89, 3) := by decide +kernel
theorem dX8_read_39 : decode cX8_read 39 = .ok (.ifCond .ne 9, 3) := by decide +kernel
theorem dX8_read_42 : decode cX8_read 42 = .ok (.aload_n 0, 1) := by decide +kernel
theorem dX8_read_43 : decode cX8_read 43 = .ok (.iconst 0, 1) := by decide +kernel
theorem dX8_read_44 : decode cX8_read 44 = .ok (.invokevirtual 61, 3) := by decide +kernel
theorem dX8_read_47 : decode cX8_read 47 = .ok (.ireturn, 1) := by decide +kernel
theorem dX8_read_48 : decode cX8_read 48 = .ok (.aload_n 0, 1) := by decide +kernel
theorem dX8_read_49 : decode cX8_read 49 = .ok (.getfield 10, 3) := by decide +kernel
theorem dX8_read_52 : decode cX8_read 52 = .ok (.getfield 92, 3) := by decide +kernel
theorem dX8_read_55 : decode cX8_read 55 = .ok (.iload_n 2, 1) := by decide +kernel
theorem dX8_read_56 : decode cX8_read 56 = .ok (.aaload, 1) := by decide +kernel
theorem dX8_read_57 : decode cX8_read 57 = .ok (.invokevirtual 124, 3) := by decide +kernel
theorem dX8_read_60 : decode cX8_read 60 = .ok (.ifCond .eq 8, 3) := by decide +kernel
theorem dX8_read_63 : decode cX8_read 63 = .ok (.bipush 9, 2) := by decide +kernel
theorem dX8_read_65 : decode cX8_read 65 = .ok (.goto 4, 3) := by decide +kernel
theorem dX8_read_68 : decode cX8_read 68 = .ok (.iconst 0, 1) := by decide +kernel
theorem dX8_read_69 : decode cX8_read 69 = .ok (.istore_n 3, 1) := by decide +kernel
theorem dX8_read_70 : decode cX8_read 70 = .ok (.iconst 0, 1) := by decide +kernel
theorem dX8_read_71 : decode cX8_read 71 = .ok (.istore 4, 2) := by decide +kernel
theorem dX8_read_73 : decode cX8_read 73 = .ok (.iconst 0, 1) := by decide +kernel
theorem dX8_read_74 : decode cX8_read 74 = .ok (.istore 5, 2) := by decide +kernel
theorem dX8_read_76 : decode cX8_read 76 = .ok (.iload 5, 2) := by decide +kernel
theorem dX8_read_78 : decode cX8_read 78 = .ok (.bipush 6, 2) := by decide +kernel
theorem dX8_read_80 : decode cX8_read 80 = .ok (.if_icmp .ge 80, 3) := by decide +kernel
theorem dX8_read_83 : decode cX8_read 83 = .ok (.iconst 0, 1) := by decide +kernel
theorem dX8_read_84 : decode cX8_read 84 = .ok (.istore 6, 2) := by decide +kernel
theorem dX8_read_86 : decode cX8_read 86 = .ok (.iload 6, 2) := by decide +kernel
theorem dX8_read_88 : decode cX8_read 88 = .ok (.iload_n 3, 1) := by decide +kernel
theorem dX8_read_89 : decode cX8_read 89 = .ok (.if_icmp .gt 65, 3) := by decide +kernel
theorem dX8_read_92 : decode cX8_read 92 = .ok (.aload_n 0, 1) := by decide +kernel
theorem dX8_read_93 : decode cX8_read 93 = .ok (.getfield 19, 3) := by decide +kernel
theorem dX8_read_96 : decode cX8_read 96 = .ok (.aload_n 0, 1) := by decide +kernel
theorem dX8_read_97 : decode cX8_read 97 = .ok (.getfield 10, 3) := by decide +kernel
theorem dX8_read_100 : decode cX8_read 100 = .ok (.invokevirtual 165, 3) := by decide +kernel
theorem dX8_read_103 : decode cX8_read 103 = .ok (.aload_n 0, 1) := by decide +kernel
theorem dX8_read_104 : decode cX8_read 104 = .ok (.getfield 19, 3) := by decide +kernel
theorem dX8_read_107 : decode cX8_read 107 = .ok (.getfield 92, 3) := by decide +kernel
theorem dX8_read_110 : decode cX8_read 110 = .ok (.iload_n 2, 1) := by decide +kernel
theorem dX8_read_111 : decode cX8_read 111 = .ok (.aaload, 1) := by decide +kernel
theorem dX8_read_112 : decode cX8_read 112 = .ok (.iload 5, 2) := by decide +kernel
theorem dX8_read_114 : decode cX8_read 114 = .ok (.putfield 105, 3) := by decide +kernel
theorem dX8_read_117 : decode cX8_read 117 = .ok (.aload_n 0, 1) := by decide +kernel
theorem dX8_read_118 : decode cX8_read 118 = .ok (.getfield 19, 3) := by decide +kernel
theorem dX8_read_121 : decode cX8_read 121 = .ok (.getfield 92, 3) := by decide +kernel
theorem dX8_read_124 : decode cX8_read 124 = .ok (.iload_n 2, 1) := by decide +kernel
theorem dX8_read_125 : decode cX8_read 125 = .ok (.aaload, 1) := by decide +kernel
theorem dX8_read_126 : decode cX8_read 126 = .ok (.iload 6, 2) := by decide +kernel
theorem dX8_read_128 : decode cX8_read 128 = .ok (.putfield 133, 3) := by decide +kernel
theorem dX8_read_131 : decode cX8_read 131 = .ok (.aload_n 0, 1) := by decide +kernel
theorem dX8_read_132 : decode cX8_read 132 = .ok (.aload_n 0, 1) := by decide +kernel
theorem dX8_read_133 : decode cX8_read 133 = .ok (.getfield 38, 3) := by decide +kernel
theorem dX8_read_136 : decode cX8_read 136 = .ok (.iload_n 1, 1) := by decide +kernel
theorem dX8_read_137 : decode cX8_read 137 = .ok (.aaload, 1) := by decide +kernel
theorem dX8_read_138 : decode cX8_read 138 = .ok (.iload_n 2, 1) := by decide +kernel
theorem dX8_read_139 : decode cX8_read 139 = .ok (.invokevirtual 261, 3) := by decide +kernel
theorem dX8_read_142 : decode cX8_read 142 = .ok (.ifCond .eq 6, 3) := by decide +kernel
theorem dX8_read_145 : decode cX8_read 145 = .ok (.iinc 4 1, 3) := by decide +kernel
theorem dX8_read_148 : decode cX8_read 148 = .ok (.iinc 6 1, 3) := by decide +kernel
theorem dX8_read_151 : decode cX8_read 151 = .ok (.goto (-65), 3) := by decide +kernel
theorem dX8_read_154 : decode cX8_read 154 = .ok (.iinc 5 1, 3) := by decide +kernel
theorem dX8_read_157 : decode cX8_read 157 = .ok (.goto (-81), 3) := by decide +kernel
theorem dX8_read_160 : decode cX8_read 160 = .ok (.iload 4, 2) := by decide +kernel
theorem dX8_read_162 : decode cX8_read 162 = .ok (.ireturn, 1) := by decide +kernel
theorem dX8_image_0 : decode cX8_image 0 = .ok (.aload_n 0, 1) := by decide +kernel
theorem dX8_image_1 : decode cX8_image 1 = .ok (.getfield 16, 3) := by decide +kernel
theorem dX8_image_4 : decode cX8_image 4 = .ok (.aload_n 0, 1) := by decide +kernel
theorem dX8_image_5 : decode cX8_image 5 = .ok (.getfield 10, 3) := by decide +kernel
theorem dX8_image_8 : decode cX8_image 8 = .ok (.invokevirtual 165, 3) := by decide +kernel
theorem dX8_image_11 : decode cX8_image 11 = .ok (.aload_n 0, 1) := by decide +kernel
theorem dX8_image_12 : decode cX8_image 12 = .ok (.iconst 1, 1) := by decide +kernel
theorem dX8_image_13 : decode cX8_image 13 = .ok (.putfield 46, 3) := by decide +kernel
theorem dX8_image_16 : decode cX8_image 16 = .ok (.iconst 1, 1) := by decide +kernel
theorem dX8_image_17 : decode cX8_image 17 = .ok (.ireturn, 1) := by decide +kernel
theorem dX8_undo_0 : decode cX8_undo 0 = .ok (.aload_n 0, 1) := by decide +kernel
theorem dX8_undo_1 : decode cX8_undo 1 = .ok (.getfield 46, 3) := by decide +kernel
theorem dX8_undo_4 : decode cX8_undo 4 = .ok (.ifCond .ne 9, 3) := by decide +kernel
theorem dX8_undo_7 : decode cX8_undo 7 = .ok (.aload_n 0, 1) := by decide +kernel
theorem dX8_undo_8 : decode cX8_undo 8 = .ok (.iconst 3, 1) := by decide +kernel
theorem dX8_undo_9 : decode cX8_undo 9 = .ok (.invokevirtual 61, 3) := by decide +kernel
theorem dX8_undo_12 : decode cX8_undo 12 = .ok (.ireturn, 1) := by decide +kernel
theorem dX8_undo_13 : decode cX8_undo 13 = .ok (.aload_n 0, 1) := by decide +kernel
theorem dX8_undo_14 : decode cX8_undo 14 = .ok (.getfield 10, 3) := by decide +kernel
theorem dX8_undo_17 : decode cX8_undo 17 = .ok (.aload_n 0, 1) := by decide +kernel
theorem dX8_undo_18 : decode cX8_undo 18 = .ok (.getfield 16, 3) := by decide +kernel
theorem dX8_undo_21 : decode cX8_undo 21 = .ok (.invokevirtual 165, 3) := by decide +kernel
theorem dX8_undo_24 : decode cX8_undo 24 = .ok (.aload_n 0, 1) := by decide +kernel
theorem dX8_undo_25 : decode cX8_undo 25 = .ok (.getfield 10, 3) := by decide +kernel
theorem dX8_undo_28 : decode cX8_undo 28 = .ok (.getfield 206, 3) := by decide +kernel
theorem dX8_undo_31 : decode cX8_undo 31 = .ok (.ireturn, 1) := by decide +kernel
theorem dX8_tear_0 : decode cX8_tear 0 = .ok (.aload_n 0, 1) := by decide +kernel
theorem dX8_tear_1 : decode cX8_tear 1 = .ok (.getfield 46, 3) := by decide +kernel
theorem dX8_tear_4 : decode cX8_tear 4 = .ok (.ifCond .eq 7, 3) := by decide +kernel
theorem dX8_tear_7 : decode cX8_tear 7 = .ok (.iconst 1, 1) := by decide +kernel
theorem dX8_tear_8 : decode cX8_tear 8 = .ok (.goto 4, 3) := by decide +kernel
theorem dX8_tear_11 : decode cX8_tear 11 = .ok (.iconst 0, 1) := by decide +kernel
theorem dX8_tear_12 : decode cX8_tear 12 = .ok (.istore_n 1, 1) := by decide +kernel
theorem dX8_tear_13 : decode cX8_tear 13 = .ok (.aload_n 0, 1) := by decide +kernel
theorem dX8_tear_14 : decode cX8_tear 14 = .ok (.iconst 0, 1) := by decide +kernel
theorem dX8_tear_15 : decode cX8_tear 15 = .ok (.putfield 46, 3) := by decide +kernel
theorem dX8_tear_18 : decode cX8_tear 18 = .ok (.iload_n 1, 1) := by decide +kernel
theorem dX8_tear_19 : decode cX8_tear 19 = .ok (.ireturn, 1) := by decide +kernel
theorem dX8_count_0 : decode cX8_count 0 = .ok (.iload_n 1, 1) := by decide +kernel
theorem dX8_count_1 : decode cX8_count 1 = .ok (.tableswitch 69 0 3 #[31, 39, 50, 61], 31) := by decide +kernel
theorem dX8_count_32 : decode cX8_count 32 = .ok (.aload_n 0, 1) := by decide +kernel
theorem dX8_count_33 : decode cX8_count 33 = .ok (.getfield 10, 3) := by decide +kernel
theorem dX8_count_36 : decode cX8_count 36 = .ok (.getfield 206, 3) := by decide +kernel
theorem dX8_count_39 : decode cX8_count 39 = .ok (.ireturn, 1) := by decide +kernel
theorem dX8_count_40 : decode cX8_count 40 = .ok (.aload_n 0, 1) := by decide +kernel
theorem dX8_count_41 : decode cX8_count 41 = .ok (.getfield 25, 3) := by decide +kernel
theorem dX8_count_44 : decode cX8_count 44 = .ok (.getfield 209, 3) := by decide +kernel
theorem dX8_count_47 : decode cX8_count 47 = .ok (.getfield 213, 3) := by decide +kernel
theorem dX8_count_50 : decode cX8_count 50 = .ok (.ireturn, 1) := by decide +kernel
theorem dX8_count_51 : decode cX8_count 51 = .ok (.aload_n 0, 1) := by decide +kernel
theorem dX8_count_52 : decode cX8_count 52 = .ok (.getfield 10, 3) := by decide +kernel
theorem dX8_count_55 : decode cX8_count 55 = .ok (.invokevirtual 152, 3) := by decide +kernel
theorem dX8_count_58 : decode cX8_count 58 = .ok (.invokestatic 181, 3) := by decide +kernel
theorem dX8_count_61 : decode cX8_count 61 = .ok (.ireturn, 1) := by decide +kernel
theorem dX8_count_62 : decode cX8_count 62 = .ok (.aload_n 0, 1) := by decide +kernel
theorem dX8_count_63 : decode cX8_count 63 = .ok (.getfield 10, 3) := by decide +kernel
theorem dX8_count_66 : decode cX8_count 66 = .ok (.invokevirtual 265, 3) := by decide +kernel
theorem dX8_count_69 : decode cX8_count 69 = .ok (.ireturn, 1) := by decide +kernel
theorem dX8_count_70 : decode cX8_count 70 = .ok (.aload_n 0, 1) := by decide +kernel
theorem dX8_count_71 : decode cX8_count 71 = .ok (.iconst 0, 1) := by decide +kernel
theorem dX8_count_72 : decode cX8_count 72 = .ok (.invokevirtual 61, 3) := by decide +kernel
theorem dX8_count_75 : decode cX8_count 75 = .ok (.ireturn, 1) := by decide +kernel
theorem dX8_status_0 : decode cX8_status 0 = .ok (.iload_n 1, 1) := by decide +kernel
theorem dX8_status_1 : decode cX8_status 1 = .ok (.iconst (-1), 1) := by decide +kernel
theorem dX8_status_2 : decode cX8_status 2 = .ok (.if_icmp .lt 9, 3) := by decide +kernel
theorem dX8_status_5 : decode cX8_status 5 = .ok (.iload_n 1, 1) := by decide +kernel
theorem dX8_status_6 : decode cX8_status 6 = .ok (.bipush 7, 2) := by decide +kernel
theorem dX8_status_8 : decode cX8_status 8 = .ok (.if_icmp .lt 9, 3) := by decide +kernel
theorem dX8_status_11 : decode cX8_status 11 = .ok (.aload_n 0, 1) := by decide +kernel
theorem dX8_status_12 : decode cX8_status 12 = .ok (.iconst 0, 1) := by decide +kernel
theorem dX8_status_13 : decode cX8_status 13 = .ok (.invokevirtual 61, 3) := by decide +kernel
theorem dX8_status_16 : decode cX8_status 16 = .ok (.ireturn, 1) := by decide +kernel
theorem dX8_status_17 : decode cX8_status 17 = .ok (.iload_n 1, 1) := by decide +kernel
theorem dX8_status_18 : decode cX8_status 18 = .ok (.ifCond .lt 10, 3) := by decide +kernel
theorem dX8_status_21 : decode cX8_status 21 = .ok (.aload_n 0, 1) := by decide +kernel
theorem dX8_status_22 : decode cX8_status 22 = .ok (.getfield 42, 3) := by decide +kernel
theorem dX8_status_25 : decode cX8_status 25 = .ok (.iload_n 1, 1) := by decide +kernel
theorem dX8_status_26 : decode cX8_status 26 = .ok (.iaload, 1) := by decide +kernel
theorem dX8_status_27 : decode cX8_status 27 = .ok (.ireturn, 1) := by decide +kernel
theorem dX8_status_28 : decode cX8_status 28 = .ok (.iconst 0, 1) := by decide +kernel
theorem dX8_status_29 : decode cX8_status 29 = .ok (.istore_n 2, 1) := by decide +kernel
theorem dX8_status_30 : decode cX8_status 30 = .ok (.iconst 0, 1) := by decide +kernel
theorem dX8_status_31 : decode cX8_status 31 = .ok (.istore_n 3, 1) := by decide +kernel
theorem dX8_status_32 : decode cX8_status 32 = .ok (.iload_n 3, 1) := by decide +kernel
theorem dX8_status_33 : decode cX8_status 33 = .ok (.bipush 7, 2) := by decide +kernel
theorem dX8_status_35 : decode cX8_status 35 = .ok (.if_icmp .ge 18, 3) := by decide +kernel
theorem dX8_status_38 : decode cX8_status 38 = .ok (.iload_n 2, 1) := by decide +kernel
theorem dX8_status_39 : decode cX8_status 39 = .ok (.aload_n 0, 1) := by decide +kernel
theorem dX8_status_40 : decode cX8_status 40 = .ok (.getfield 42, 3) := by decide +kernel
theorem dX8_status_43 : decode cX8_status 43 = .ok (.iload_n 3, 1) := by decide +kernel
theorem dX8_status_44 : decode cX8_status 44 = .ok (.iaload, 1) := by decide +kernel
theorem dX8_status_45 : decode cX8_status 45 = .ok (.iadd, 1) := by decide +kernel
theorem dX8_status_46 : decode cX8_status 46 = .ok (.istore_n 2, 1) := by decide +kernel
theorem dX8_status_47 : decode cX8_status 47 = .ok (.iinc 3 1, 3) := by decide +kernel
theorem dX8_status_50 : decode cX8_status 50 = .ok (.goto (-18), 3) := by decide +kernel
theorem dX8_status_53 : decode cX8_status 53 = .ok (.iload_n 2, 1) := by decide +kernel
theorem dX8_status_54 : decode cX8_status 54 = .ok (.ireturn, 1) := by decide +kernel
theorem dX8_tell_0 : decode cX8_tell 0 = .ok (.aload_n 0, 1) := by decide +kernel
theorem dX8_tell_1 : decode cX8_tell 1 = .ok (.getfield 42, 3) := by decide +kernel
theorem dX8_tell_4 : decode cX8_tell 4 = .ok (.iload_n 1, 1) := by decide +kernel
theorem dX8_tell_5 : decode cX8_tell 5 = .ok (.dup2, 1) := by decide +kernel
theorem dX8_tell_6 : decode cX8_tell 6 = .ok (.iaload, 1) := by decide +kernel
theorem dX8_tell_7 : decode cX8_tell 7 = .ok (.iconst 1, 1) := by decide +kernel
theorem dX8_tell_8 : decode cX8_tell 8 = .ok (.iadd, 1) := by decide +kernel
theorem dX8_tell_9 : decode cX8_tell 9 = .ok (.iastore, 1) := by decide +kernel
theorem dX8_tell_10 : decode cX8_tell 10 = .ok (.ldc_w 268, 3) := by decide +kernel
theorem dX8_tell_13 : decode cX8_tell 13 = .ok (.iload_n 1, 1) := by decide +kernel
theorem dX8_tell_14 : decode cX8_tell 14 = .ok (.isub, 1) := by decide +kernel
theorem dX8_tell_15 : decode cX8_tell 15 = .ok (.ireturn, 1) := by decide +kernel
theorem dX8_staysInTrial_0 : decode cX8_staysInTrial 0 = .ok (.aload_n 0, 1) := by decide +kernel
theorem dX8_staysInTrial_1 : decode cX8_staysInTrial 1 = .ok (.getfield 19, 3) := by decide +kernel
theorem dX8_staysInTrial_4 : decode cX8_staysInTrial 4 = .ok (.iload_n 2, 1) := by decide +kernel
theorem dX8_staysInTrial_5 : decode cX8_staysInTrial 5 = .ok (.invokevirtual 149, 3) := by decide +kernel
theorem dX8_staysInTrial_8 : decode cX8_staysInTrial 8 = .ok (.aload_n 0, 1) := by decide +kernel
theorem dX8_staysInTrial_9 : decode cX8_staysInTrial 9 = .ok (.getfield 19, 3) := by decide +kernel
theorem dX8_staysInTrial_12 : decode cX8_staysInTrial 12 = .ok (.getfield 92, 3) := by decide +kernel
theorem dX8_staysInTrial_15 : decode cX8_staysInTrial 15 = .ok (.iload_n 1, 1) := by decide +kernel
theorem dX8_staysInTrial_16 : decode cX8_staysInTrial 16 = .ok (.aaload, 1) := by decide +kernel
theorem dX8_staysInTrial_17 : decode cX8_staysInTrial 17 = .ok (.invokevirtual 124, 3) := by decide +kernel
theorem dX8_staysInTrial_20 : decode cX8_staysInTrial 20 = .ok (.ireturn, 1) := by decide +kernel
theorem dX8_trialTells_0 : decode cX8_trialTells 0 = .ok (.iconst 0, 1) := by decide +kernel
theorem dX8_trialTells_1 : decode cX8_trialTells 1 = .ok (.istore_n 3, 1) := by decide +kernel
theorem dX8_trialTells_2 : decode cX8_trialTells 2 = .ok (.iload_n 3, 1) := by decide +kernel
theorem dX8_trialTells_3 : decode cX8_trialTells 3 = .ok (.aload_n 1, 1) := by decide +kernel
theorem dX8_trialTells_4 : decode cX8_trialTells 4 = .ok (.getfield 236, 3) := by decide +kernel
theorem dX8_trialTells_7 : decode cX8_trialTells 7 = .ok (.if_icmp .ge 41, 3) := by decide +kernel
theorem dX8_trialTells_10 : decode cX8_trialTells 10 = .ok (.aload_n 1, 1) := by decide +kernel
theorem dX8_trialTells_11 : decode cX8_trialTells 11 = .ok (.getfield 240, 3) := by decide +kernel
theorem dX8_trialTells_14 : decode cX8_trialTells 14 = .ok (.iload_n 3, 1) := by decide +kernel
theorem dX8_trialTells_15 : decode cX8_trialTells 15 = .ok (.laload, 1) := by decide +kernel
theorem dX8_trialTells_16 : decode cX8_trialTells 16 = .ok (.aload_n 0, 1) := by decide +kernel
theorem dX8_trialTells_17 : decode cX8_trialTells 17 = .ok (.getfield 19, 3) := by decide +kernel
theorem dX8_trialTells_20 : decode cX8_trialTells 20 = .ok (.getfield 92, 3) := by decide +kernel
theorem dX8_trialTells_23 : decode cX8_trialTells 23 = .ok (.iload_n 2, 1) := by decide +kernel
theorem dX8_trialTells_24 : decode cX8_trialTells 24 = .ok (.aaload, 1) := by decide +kernel
theorem dX8_trialTells_25 : decode cX8_trialTells 25 = .ok (.getfield 114, 3) := by decide +kernel
theorem dX8_trialTells_28 : decode cX8_trialTells 28 = .ok (.i2l, 1) := by decide +kernel
theorem dX8_trialTells_29 : decode cX8_trialTells 29 = .ok (.lcmp, 1) := by decide +kernel
theorem dX8_trialTells_30 : decode cX8_trialTells 30 = .ok (.ifCond .eq 5, 3) := by decide +kernel
theorem dX8_trialTells_33 : decode cX8_trialTells 33 = .ok (.iconst 0, 1) := by decide +kernel
theorem dX8_trialTells_34 : decode cX8_trialTells 34 = .ok (.ireturn, 1) := by decide +kernel
theorem dX8_trialTells_35 : decode cX8_trialTells 35 = .ok (.aload_n 0, 1) := by decide +kernel
theorem dX8_trialTells_36 : decode cX8_trialTells 36 = .ok (.getfield 19, 3) := by decide +kernel
theorem dX8_trialTells_39 : decode cX8_trialTells 39 = .ok (.invokevirtual 169, 3) := by decide +kernel
theorem dX8_trialTells_42 : decode cX8_trialTells 42 = .ok (.iinc 3 1, 3) := by decide +kernel
theorem dX8_trialTells_45 : decode cX8_trialTells 45 = .ok (.goto (-43), 3) := by decide +kernel
theorem dX8_trialTells_48 : decode cX8_trialTells 48 = .ok (.iconst 1, 1) := by decide +kernel
theorem dX8_trialTells_49 : decode cX8_trialTells 49 = .ok (.ireturn, 1) := by decide +kernel
theorem dX8_isSeat_0 : decode cX8_isSeat 0 = .ok (.iload_n 0, 1) := by decide +kernel
theorem dX8_isSeat_1 : decode cX8_isSeat 1 = .ok (.ifCond .lt 12, 3) := by decide +kernel
theorem dX8_isSeat_4 : decode cX8_isSeat 4 = .ok (.iload_n 0, 1) := by decide +kernel
theorem dX8_isSeat_5 : decode cX8_isSeat 5 = .ok (.iconst 3, 1) := by decide +kernel
theorem dX8_isSeat_6 : decode cX8_isSeat 6 = .ok (.if_icmp .ge 7, 3) := by decide +kernel
theorem dX8_isSeat_9 : decode cX8_isSeat 9 = .ok (.iconst 1, 1) := by decide +kernel
theorem dX8_isSeat_10 : decode cX8_isSeat 10 = .ok (.goto 4, 3) := by decide +kernel
theorem dX8_isSeat_13 : decode cX8_isSeat 13 = .ok (.iconst 0, 1) := by decide +kernel
theorem dX8_isSeat_14 : decode cX8_isSeat 14 = .ok (.ireturn, 1) := by decide +kernel
theorem dX8_isKind_0 : decode cX8_isKind 0 = .ok (.iload_n 0, 1) := by decide +kernel
theorem dX8_isKind_1 : decode cX8_isKind 1 = .ok (.ifCond .lt 13, 3) := by decide +kernel
theorem dX8_isKind_4 : decode cX8_isKind 4 = .ok (.iload_n 0, 1) := by decide +kernel
theorem dX8_isKind_5 : decode cX8_isKind 5 = .ok (.bipush 6, 2) := by decide +kernel
theorem dX8_isKind_7 : decode cX8_isKind 7 = .ok (.if_icmp .ge 7, 3) := by decide +kernel
theorem dX8_isKind_10 : decode cX8_isKind 10 = .ok (.iconst 1, 1) := by decide +kernel
theorem dX8_isKind_11 : decode cX8_isKind 11 = .ok (.goto 4, 3) := by decide +kernel
theorem dX8_isKind_14 : decode cX8_isKind 14 = .ok (.iconst 0, 1) := by decide +kernel
theorem dX8_isKind_15 : decode cX8_isKind 15 = .ok (.ireturn, 1) := by decide +kernel
theorem dX8_isSheet_0 : decode cX8_isSheet 0 = .ok (.iload_n 0, 1) := by decide +kernel
theorem dX8_isSheet_1 : decode cX8_isSheet 1 = .ok (.ifCond .lt 12, 3) := by decide +kernel
theorem dX8_isSheet_4 : decode cX8_isSheet 4 = .ok (.iload_n 0, 1) := by decide +kernel
theorem dX8_isSheet_5 : decode cX8_isSheet 5 = .ok (.iconst 4, 1) := by decide +kernel
theorem dX8_isSheet_6 : decode cX8_isSheet 6 = .ok (.if_icmp .ge 7, 3) := by decide +kernel
theorem dX8_isSheet_9 : decode cX8_isSheet 9 = .ok (.iconst 1, 1) := by decide +kernel
theorem dX8_isSheet_10 : decode cX8_isSheet 10 = .ok (.goto 4, 3) := by decide +kernel
theorem dX8_isSheet_13 : decode cX8_isSheet 13 = .ok (.iconst 0, 1) := by decide +kernel
theorem dX8_isSheet_14 : decode cX8_isSheet 14 = .ok (.ireturn, 1) := by decide +kernel
theorem dJ6_bitCount_0f7a4_0 : decode cJ6_bitCount_0f7a4 0 = .ok (.iload_n 0, 1) := by decide +kernel
theorem dJ6_bitCount_0f7a4_1 : decode cJ6_bitCount_0f7a4 1 = .ok (.iload_n 0, 1) := by decide +kernel
theorem dJ6_bitCount_0f7a4_2 : decode cJ6_bitCount_0f7a4 2 = .ok (.iconst 1, 1) := by decide +kernel
theorem dJ6_bitCount_0f7a4_3 : decode cJ6_bitCount_0f7a4 3 = .ok (.iushr, 1) := by decide +kernel
theorem dJ6_bitCount_0f7a4_4 : decode cJ6_bitCount_0f7a4 4 = .ok (.ldc_w 265, 3) := by decide +kernel
theorem dJ6_bitCount_0f7a4_7 : decode cJ6_bitCount_0f7a4 7 = .ok (.iand, 1) := by decide +kernel
theorem dJ6_bitCount_0f7a4_8 : decode cJ6_bitCount_0f7a4 8 = .ok (.isub, 1) := by decide +kernel
theorem dJ6_bitCount_0f7a4_9 : decode cJ6_bitCount_0f7a4 9 = .ok (.istore_n 0, 1) := by decide +kernel
theorem dJ6_bitCount_0f7a4_10 : decode cJ6_bitCount_0f7a4 10 = .ok (.iload_n 0, 1) := by decide +kernel
theorem dJ6_bitCount_0f7a4_11 : decode cJ6_bitCount_0f7a4 11 = .ok (.ldc_w 266, 3) := by decide +kernel
theorem dJ6_bitCount_0f7a4_14 : decode cJ6_bitCount_0f7a4 14 = .ok (.iand, 1) := by decide +kernel
theorem dJ6_bitCount_0f7a4_15 : decode cJ6_bitCount_0f7a4 15 = .ok (.iload_n 0, 1) := by decide +kernel
theorem dJ6_bitCount_0f7a4_16 : decode cJ6_bitCount_0f7a4 16 = .ok (.iconst 2, 1) := by decide +kernel
theorem dJ6_bitCount_0f7a4_17 : decode cJ6_bitCount_0f7a4 17 = .ok (.iushr, 1) := by decide +kernel
theorem dJ6_bitCount_0f7a4_18 : decode cJ6_bitCount_0f7a4 18 = .ok (.ldc_w 266, 3) := by decide +kernel
theorem dJ6_bitCount_0f7a4_21 : decode cJ6_bitCount_0f7a4 21 = .ok (.iand, 1) := by decide +kernel
theorem dJ6_bitCount_0f7a4_22 : decode cJ6_bitCount_0f7a4 22 = .ok (.iadd, 1) := by decide +kernel
theorem dJ6_bitCount_0f7a4_23 : decode cJ6_bitCount_0f7a4 23 = .ok (.istore_n 0, 1) := by decide +kernel
theorem dJ6_bitCount_0f7a4_24 : decode cJ6_bitCount_0f7a4 24 = .ok (.iload_n 0, 1) := by decide +kernel
theorem dJ6_bitCount_0f7a4_25 : decode cJ6_bitCount_0f7a4 25 = .ok (.iload_n 0, 1) := by decide +kernel
theorem dJ6_bitCount_0f7a4_26 : decode cJ6_bitCount_0f7a4 26 = .ok (.iconst 4, 1) := by decide +kernel
theorem dJ6_bitCount_0f7a4_27 : decode cJ6_bitCount_0f7a4 27 = .ok (.iushr, 1) := by decide +kernel
theorem dJ6_bitCount_0f7a4_28 : decode cJ6_bitCount_0f7a4 28 = .ok (.iadd, 1) := by decide +kernel
theorem dJ6_bitCount_0f7a4_29 : decode cJ6_bitCount_0f7a4 29 = .ok (.ldc_w 267, 3) := by decide +kernel
theorem dJ6_bitCount_0f7a4_32 : decode cJ6_bitCount_0f7a4 32 = .ok (.iand, 1) := by decide +kernel
theorem dJ6_bitCount_0f7a4_33 : decode cJ6_bitCount_0f7a4 33 = .ok (.istore_n 0, 1) := by decide +kernel
theorem dJ6_bitCount_0f7a4_34 : decode cJ6_bitCount_0f7a4 34 = .ok (.iload_n 0, 1) := by decide +kernel
theorem dJ6_bitCount_0f7a4_35 : decode cJ6_bitCount_0f7a4 35 = .ok (.iload_n 0, 1) := by decide +kernel
theorem dJ6_bitCount_0f7a4_36 : decode cJ6_bitCount_0f7a4 36 = .ok (.bipush 8, 2) := by decide +kernel
theorem dJ6_bitCount_0f7a4_38 : decode cJ6_bitCount_0f7a4 38 = .ok (.iushr, 1) := by decide +kernel
theorem dJ6_bitCount_0f7a4_39 : decode cJ6_bitCount_0f7a4 39 = .ok (.iadd, 1) := by decide +kernel
theorem dJ6_bitCount_0f7a4_40 : decode cJ6_bitCount_0f7a4 40 = .ok (.istore_n 0, 1) := by decide +kernel
theorem dJ6_bitCount_0f7a4_41 : decode cJ6_bitCount_0f7a4 41 = .ok (.iload_n 0, 1) := by decide +kernel
theorem dJ6_bitCount_0f7a4_42 : decode cJ6_bitCount_0f7a4 42 = .ok (.iload_n 0, 1) := by decide +kernel
theorem dJ6_bitCount_0f7a4_43 : decode cJ6_bitCount_0f7a4 43 = .ok (.bipush 16, 2) := by decide +kernel
theorem dJ6_bitCount_0f7a4_45 : decode cJ6_bitCount_0f7a4 45 = .ok (.iushr, 1) := by decide +kernel
theorem dJ6_bitCount_0f7a4_46 : decode cJ6_bitCount_0f7a4 46 = .ok (.iadd, 1) := by decide +kernel
theorem dJ6_bitCount_0f7a4_47 : decode cJ6_bitCount_0f7a4 47 = .ok (.istore_n 0, 1) := by decide +kernel
theorem dJ6_bitCount_0f7a4_48 : decode cJ6_bitCount_0f7a4 48 = .ok (.iload_n 0, 1) := by decide +kernel
theorem dJ6_bitCount_0f7a4_49 : decode cJ6_bitCount_0f7a4 49 = .ok (.bipush 63, 2) := by decide +kernel
theorem dJ6_bitCount_0f7a4_51 : decode cJ6_bitCount_0f7a4 51 = .ok (.iand, 1) := by decide +kernel
theorem dJ6_bitCount_0f7a4_52 : decode cJ6_bitCount_0f7a4 52 = .ok (.ireturn, 1) := by decide +kernel
theorem dJ9_max_7cf53_0 : decode cJ9_max_7cf53 0 = .ok (.iload_n 0, 1) := by decide +kernel
theorem dJ9_max_7cf53_1 : decode cJ9_max_7cf53 1 = .ok (.iload_n 1, 1) := by decide +kernel
theorem dJ9_max_7cf53_2 : decode cJ9_max_7cf53 2 = .ok (.if_icmp .lt 7, 3) := by decide +kernel
theorem dJ9_max_7cf53_5 : decode cJ9_max_7cf53 5 = .ok (.iload_n 0, 1) := by decide +kernel
theorem dJ9_max_7cf53_6 : decode cJ9_max_7cf53 6 = .ok (.goto 4, 3) := by decide +kernel
theorem dJ9_max_7cf53_9 : decode cJ9_max_7cf53 9 = .ok (.iload_n 1, 1) := by decide +kernel
theorem dJ9_max_7cf53_10 : decode cJ9_max_7cf53 10 = .ok (.ireturn, 1) := by decide +kernel
theorem dJ9_min_7cf53_0 : decode cJ9_min_7cf53 0 = .ok (.iload_n 0, 1) := by decide +kernel
theorem dJ9_min_7cf53_1 : decode cJ9_min_7cf53 1 = .ok (.iload_n 1, 1) := by decide +kernel
theorem dJ9_min_7cf53_2 : decode cJ9_min_7cf53 2 = .ok (.if_icmp .gt 7, 3) := by decide +kernel
theorem dJ9_min_7cf53_5 : decode cJ9_min_7cf53 5 = .ok (.iload_n 0, 1) := by decide +kernel
theorem dJ9_min_7cf53_6 : decode cJ9_min_7cf53 6 = .ok (.goto 4, 3) := by decide +kernel
theorem dJ9_min_7cf53_9 : decode cJ9_min_7cf53 9 = .ok (.iload_n 1, 1) := by decide +kernel
theorem dJ9_min_7cf53_10 : decode cJ9_min_7cf53 10 = .ok (.ireturn, 1) := by decide +kernel
theorem dJ0_length_8abf5_0 : decode cJ0_length_8abf5 0 = .ok (.aload_n 0, 1) := by decide +kernel
theorem dJ0_length_8abf5_1 : decode cJ0_length_8abf5 1 = .ok (.getfield 9, 3) := by decide +kernel
theorem dJ0_length_8abf5_4 : decode cJ0_length_8abf5 4 = .ok (.arraylength, 1) := by decide +kernel
theorem dJ0_length_8abf5_5 : decode cJ0_length_8abf5 5 = .ok (.aload_n 0, 1) := by decide +kernel
theorem dJ0_length_8abf5_6 : decode cJ0_length_8abf5 6 = .ok (.invokevirtual 335, 3) := by decide +kernel
theorem dJ0_length_8abf5_9 : decode cJ0_length_8abf5 9 = .ok (.ishr, 1) := by decide +kernel
theorem dJ0_length_8abf5_10 : decode cJ0_length_8abf5 10 = .ok (.ireturn, 1) := by decide +kernel
theorem dJ0_charAt_5068e_0 : decode cJ0_charAt_5068e 0 = .ok (.aload_n 0, 1) := by decide +kernel
theorem dJ0_charAt_5068e_1 : decode cJ0_charAt_5068e 1 = .ok (.invokevirtual 492, 3) := by decide +kernel
theorem dJ0_charAt_5068e_4 : decode cJ0_charAt_5068e 4 = .ok (.ifCond .eq 12, 3) := by decide +kernel
theorem dJ0_charAt_5068e_7 : decode cJ0_charAt_5068e 7 = .ok (.aload_n 0, 1) := by decide +kernel
theorem dJ0_charAt_5068e_8 : decode cJ0_charAt_5068e 8 = .ok (.getfield 9, 3) := by decide +kernel
theorem dJ0_charAt_5068e_11 : decode cJ0_charAt_5068e 11 = .ok (.iload_n 1, 1) := by decide +kernel
theorem dJ0_charAt_5068e_12 : decode cJ0_charAt_5068e 12 = .ok (.invokestatic 495, 3) := by decide +kernel
theorem dJ0_charAt_5068e_15 : decode cJ0_charAt_5068e 15 = .ok (.ireturn, 1) := by decide +kernel
theorem dJ0_charAt_5068e_16 : decode cJ0_charAt_5068e 16 = .ok (.aload_n 0, 1) := by decide +kernel
theorem dJ0_charAt_5068e_17 : decode cJ0_charAt_5068e 17 = .ok (.getfield 9, 3) := by decide +kernel
theorem dJ0_charAt_5068e_20 : decode cJ0_charAt_5068e 20 = .ok (.iload_n 1, 1) := by decide +kernel
theorem dJ0_charAt_5068e_21 : decode cJ0_charAt_5068e 21 = .ok (.invokestatic 498, 3) := by decide +kernel
theorem dJ0_charAt_5068e_24 : decode cJ0_charAt_5068e 24 = .ok (.ireturn, 1) := by decide +kernel
theorem dJ0_coder_7d493_0 : decode cJ0_coder_7d493 0 = .ok (.getstatic 38, 3) := by decide +kernel
theorem dJ0_coder_7d493_3 : decode cJ0_coder_7d493 3 = .ok (.ifCond .eq 10, 3) := by decide +kernel
theorem dJ0_coder_7d493_6 : decode cJ0_coder_7d493 6 = .ok (.aload_n 0, 1) := by decide +kernel
theorem dJ0_coder_7d493_7 : decode cJ0_coder_7d493 7 = .ok (.getfield 15, 3) := by decide +kernel
theorem dJ0_coder_7d493_10 : decode cJ0_coder_7d493 10 = .ok (.goto 4, 3) := by decide +kernel
theorem dJ0_coder_7d493_13 : decode cJ0_coder_7d493 13 = .ok (.iconst 1, 1) := by decide +kernel
theorem dJ0_coder_7d493_14 : decode cJ0_coder_7d493 14 = .ok (.ireturn, 1) := by decide +kernel
theorem dJ0_isLatin1_aae02_0 : decode cJ0_isLatin1_aae02 0 = .ok (.getstatic 38, 3) := by decide +kernel
theorem dJ0_isLatin1_aae02_3 : decode cJ0_isLatin1_aae02 3 = .ok (.ifCond .eq 14, 3) := by decide +kernel
theorem dJ0_isLatin1_aae02_6 : decode cJ0_isLatin1_aae02 6 = .ok (.aload_n 0, 1) := by decide +kernel
theorem dJ0_isLatin1_aae02_7 : decode cJ0_isLatin1_aae02 7 = .ok (.getfield 15, 3) := by decide +kernel
theorem dJ0_isLatin1_aae02_10 : decode cJ0_isLatin1_aae02 10 = .ok (.ifCond .ne 7, 3) := by decide +kernel
theorem dJ0_isLatin1_aae02_13 : decode cJ0_isLatin1_aae02 13 = .ok (.iconst 1, 1) := by decide +kernel
theorem dJ0_isLatin1_aae02_14 : decode cJ0_isLatin1_aae02 14 = .ok (.goto 4, 3) := by decide +kernel
theorem dJ0_isLatin1_aae02_17 : decode cJ0_isLatin1_aae02 17 = .ok (.iconst 0, 1) := by decide +kernel
theorem dJ0_isLatin1_aae02_18 : decode cJ0_isLatin1_aae02 18 = .ok (.ireturn, 1) := by decide +kernel
theorem dJ0_checkIndex_df160_0 : decode cJ0_checkIndex_df160 0 = .ok (.iload_n 0, 1) := by decide +kernel
theorem dJ0_checkIndex_df160_1 : decode cJ0_checkIndex_df160 1 = .ok (.iload_n 1, 1) := by decide +kernel
theorem dJ0_checkIndex_df160_2 : decode cJ0_checkIndex_df160 2 = .ok (.getstatic 1053, 3) := by decide +kernel
theorem dJ0_checkIndex_df160_5 : decode cJ0_checkIndex_df160 5 = .ok (.invokestatic 1059, 3) := by decide +kernel
theorem dJ0_checkIndex_df160_8 : decode cJ0_checkIndex_df160 8 = .ok (.pop, 1) := by decide +kernel
theorem dJ0_checkIndex_df160_9 : decode cJ0_checkIndex_df160 9 = .ok (.return_, 1) := by decide +kernel
theorem dJ1_charAt_3b067_0 : decode cJ1_charAt_3b067 0 = .ok (.iload_n 1, 1) := by decide +kernel
theorem dJ1_charAt_3b067_1 : decode cJ1_charAt_3b067 1 = .ok (.aload_n 0, 1) := by decide +kernel
theorem dJ1_charAt_3b067_2 : decode cJ1_charAt_3b067 2 = .ok (.arraylength, 1) := by decide +kernel
theorem dJ1_charAt_3b067_3 : decode cJ1_charAt_3b067 3 = .ok (.invokestatic 9, 3) := by decide +kernel
theorem dJ1_charAt_3b067_6 : decode cJ1_charAt_3b067 6 = .ok (.aload_n 0, 1) := by decide +kernel
theorem dJ1_charAt_3b067_7 : decode cJ1_charAt_3b067 7 = .ok (.iload_n 1, 1) := by decide +kernel
theorem dJ1_charAt_3b067_8 : decode cJ1_charAt_3b067 8 = .ok (.baload, 1) := by decide +kernel
theorem dJ1_charAt_3b067_9 : decode cJ1_charAt_3b067 9 = .ok (.sipush 255, 3) := by decide +kernel
theorem dJ1_charAt_3b067_12 : decode cJ1_charAt_3b067 12 = .ok (.iand, 1) := by decide +kernel
theorem dJ1_charAt_3b067_13 : decode cJ1_charAt_3b067 13 = .ok (.i2c, 1) := by decide +kernel
theorem dJ1_charAt_3b067_14 : decode cJ1_charAt_3b067 14 = .ok (.ireturn, 1) := by decide +kernel
theorem dJ2_getChar_3b067_0 : decode cJ2_getChar_3b067 0 = .ok (.getstatic 44, 3) := by decide +kernel
theorem dJ2_getChar_3b067_3 : decode cJ2_getChar_3b067 3 = .ok (.ifCond .ne 25, 3) := by decide +kernel
theorem dJ2_getChar_3b067_6 : decode cJ2_getChar_3b067 6 = .ok (.iload_n 1, 1) := by decide +kernel
theorem dJ2_getChar_3b067_7 : decode cJ2_getChar_3b067 7 = .ok (.ifCond .lt 11, 3) := by decide +kernel
theorem dJ2_getChar_3b067_10 : decode cJ2_getChar_3b067 10 = .ok (.iload_n 1, 1) := by decide +kernel
theorem dJ2_getChar_3b067_11 : decode cJ2_getChar_3b067 11 = .ok (.aload_n 0, 1) := by decide +kernel
theorem dJ2_getChar_3b067_12 : decode cJ2_getChar_3b067 12 = .ok (.invokestatic 48, 3) := by decide +kernel
theorem dJ2_getChar_3b067_15 : decode cJ2_getChar_3b067 15 = .ok (.if_icmp .lt 13, 3) := by decide +kernel
theorem dJ2_getChar_3b067_18 : decode cJ2_getChar_3b067 18 = .ok (.new 52, 3) := by decide +kernel
theorem dJ2_getChar_3b067_21 : decode cJ2_getChar_3b067 21 = .ok (.dup, 1) := by decide +kernel
theorem dJ2_getChar_3b067_22 : decode cJ2_getChar_3b067 22 = .ok (.ldc 54, 2) := by decide +kernel
theorem dJ2_getChar_3b067_24 : decode cJ2_getChar_3b067 24 = .ok (.invokespecial 56, 3) := by decide +kernel
theorem dJ2_getChar_3b067_27 : decode cJ2_getChar_3b067 27 = .ok (.athrow, 1) := by decide +kernel
theorem dJ2_getChar_3b067_28 : decode cJ2_getChar_3b067 28 = .ok (.iload_n 1, 1) := by decide +kernel
theorem dJ2_getChar_3b067_29 : decode cJ2_getChar_3b067 29 = .ok (.iconst 1, 1) := by decide +kernel
theorem dJ2_getChar_3b067_30 : decode cJ2_getChar_3b067 30 = .ok (.ishl, 1) := by decide +kernel
theorem dJ2_getChar_3b067_31 : decode cJ2_getChar_3b067 31 = .ok (.istore_n 1, 1) := by decide +kernel
theorem dJ2_getChar_3b067_32 : decode cJ2_getChar_3b067 32 = .ok (.aload_n 0, 1) := by decide +kernel
theorem dJ2_getChar_3b067_33 : decode cJ2_getChar_3b067 33 = .ok (.iload_n 1, 1) := by decide +kernel
theorem dJ2_getChar_3b067_34 : decode cJ2_getChar_3b067 34 = .ok (.iinc 1 1, 3) := by decide +kernel
theorem dJ2_getChar_3b067_37 : decode cJ2_getChar_3b067 37 = .ok (.baload, 1) := by decide +kernel
theorem dJ2_getChar_3b067_38 : decode cJ2_getChar_3b067 38 = .ok (.sipush 255, 3) := by decide +kernel
theorem dJ2_getChar_3b067_41 : decode cJ2_getChar_3b067 41 = .ok (.iand, 1) := by decide +kernel
theorem dJ2_getChar_3b067_42 : decode cJ2_getChar_3b067 42 = .ok (.getstatic 59, 3) := by decide +kernel
theorem dJ2_getChar_3b067_45 : decode cJ2_getChar_3b067 45 = .ok (.ishl, 1) := by decide +kernel
theorem dJ2_getChar_3b067_46 : decode cJ2_getChar_3b067 46 = .ok (.aload_n 0, 1) := by decide +kernel
theorem dJ2_getChar_3b067_47 : decode cJ2_getChar_3b067 47 = .ok (.iload_n 1, 1) := by decide +kernel
theorem dJ2_getChar_3b067_48 : decode cJ2_getChar_3b067 48 = .ok (.baload, 1) := by decide +kernel
theorem dJ2_getChar_3b067_49 : decode cJ2_getChar_3b067 49 = .ok (.sipush 255, 3) := by decide +kernel
theorem dJ2_getChar_3b067_52 : decode cJ2_getChar_3b067 52 = .ok (.iand, 1) := by decide +kernel
theorem dJ2_getChar_3b067_53 : decode cJ2_getChar_3b067 53 = .ok (.getstatic 63, 3) := by decide +kernel
theorem dJ2_getChar_3b067_56 : decode cJ2_getChar_3b067 56 = .ok (.ishl, 1) := by decide +kernel
theorem dJ2_getChar_3b067_57 : decode cJ2_getChar_3b067 57 = .ok (.ior, 1) := by decide +kernel
theorem dJ2_getChar_3b067_58 : decode cJ2_getChar_3b067 58 = .ok (.i2c, 1) := by decide +kernel
theorem dJ2_getChar_3b067_59 : decode cJ2_getChar_3b067 59 = .ok (.ireturn, 1) := by decide +kernel
theorem dJ2_length_9d52b_0 : decode cJ2_length_9d52b 0 = .ok (.aload_n 0, 1) := by decide +kernel
theorem dJ2_length_9d52b_1 : decode cJ2_length_9d52b 1 = .ok (.arraylength, 1) := by decide +kernel
theorem dJ2_length_9d52b_2 : decode cJ2_length_9d52b 2 = .ok (.iconst 1, 1) := by decide +kernel
theorem dJ2_length_9d52b_3 : decode cJ2_length_9d52b 3 = .ok (.ishr, 1) := by decide +kernel
theorem dJ2_length_9d52b_4 : decode cJ2_length_9d52b 4 = .ok (.ireturn, 1) := by decide +kernel
theorem dJ2_charAt_3b067_0 : decode cJ2_charAt_3b067 0 = .ok (.iload_n 1, 1) := by decide +kernel
theorem dJ2_charAt_3b067_1 : decode cJ2_charAt_3b067 1 = .ok (.aload_n 0, 1) := by decide +kernel
theorem dJ2_charAt_3b067_2 : decode cJ2_charAt_3b067 2 = .ok (.invokestatic 67, 3) := by decide +kernel
theorem dJ2_charAt_3b067_5 : decode cJ2_charAt_3b067 5 = .ok (.aload_n 0, 1) := by decide +kernel
theorem dJ2_charAt_3b067_6 : decode cJ2_charAt_3b067 6 = .ok (.iload_n 1, 1) := by decide +kernel
theorem dJ2_charAt_3b067_7 : decode cJ2_charAt_3b067 7 = .ok (.invokestatic 71, 3) := by decide +kernel
theorem dJ2_charAt_3b067_10 : decode cJ2_charAt_3b067 10 = .ok (.ireturn, 1) := by decide +kernel
theorem dJ2_checkIndex_2214a_0 : decode cJ2_checkIndex_2214a 0 = .ok (.iload_n 0, 1) := by decide +kernel
theorem dJ2_checkIndex_2214a_1 : decode cJ2_checkIndex_2214a 1 = .ok (.aload_n 1, 1) := by decide +kernel
theorem dJ2_checkIndex_2214a_2 : decode cJ2_checkIndex_2214a 2 = .ok (.invokestatic 48, 3) := by decide +kernel
theorem dJ2_checkIndex_2214a_5 : decode cJ2_checkIndex_2214a 5 = .ok (.invokestatic 414, 3) := by decide +kernel
theorem dJ2_checkIndex_2214a_8 : decode cJ2_checkIndex_2214a 8 = .ok (.return_, 1) := by decide +kernel
theorem dJ3_checkIndex_8e157_0 : decode cJ3_checkIndex_8e157 0 = .ok (.iload_n 0, 1) := by decide +kernel
theorem dJ3_checkIndex_8e157_1 : decode cJ3_checkIndex_8e157 1 = .ok (.ifCond .lt 8, 3) := by decide +kernel
theorem dJ3_checkIndex_8e157_4 : decode cJ3_checkIndex_8e157 4 = .ok (.iload_n 0, 1) := by decide +kernel
theorem dJ3_checkIndex_8e157_5 : decode cJ3_checkIndex_8e157 5 = .ok (.iload_n 1, 1) := by decide +kernel
theorem dJ3_checkIndex_8e157_6 : decode cJ3_checkIndex_8e157 6 = .ok (.if_icmp .lt 10, 3) := by decide +kernel
theorem dJ3_checkIndex_8e157_9 : decode cJ3_checkIndex_8e157 9 = .ok (.aload_n 2, 1) := by decide +kernel
theorem dJ3_checkIndex_8e157_10 : decode cJ3_checkIndex_8e157 10 = .ok (.iload_n 0, 1) := by decide +kernel
theorem dJ3_checkIndex_8e157_11 : decode cJ3_checkIndex_8e157 11 = .ok (.iload_n 1, 1) := by decide +kernel
theorem dJ3_checkIndex_8e157_12 : decode cJ3_checkIndex_8e157 12 = .ok (.invokestatic 95, 3) := by decide +kernel
theorem dJ3_checkIndex_8e157_15 : decode cJ3_checkIndex_8e157 15 = .ok (.athrow, 1) := by decide +kernel
theorem dJ3_checkIndex_8e157_16 : decode cJ3_checkIndex_8e157 16 = .ok (.iload_n 0, 1) := by decide +kernel
theorem dJ3_checkIndex_8e157_17 : decode cJ3_checkIndex_8e157 17 = .ok (.ireturn, 1) := by decide +kernel
