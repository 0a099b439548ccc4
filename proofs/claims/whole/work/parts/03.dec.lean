-- decode rows (from the printed starting text NAMES.whole)
theorem dX0_init_0 : decode cX0_init 0 = .ok (.aload_n 0, 1) := by decide +kernel
theorem dX0_init_1 : decode cX0_init 1 = .ok (.invokespecial 1, 3) := by decide +kernel
theorem dX0_init_4 : decode cX0_init 4 = .ok (.aload_n 0, 1) := by decide +kernel
theorem dX0_init_5 : decode cX0_init 5 = .ok (.bipush 14, 2) := by decide +kernel
theorem dX0_init_7 : decode cX0_init 7 = .ok (.anewarray 9, 3) := by decide +kernel
theorem dX0_init_10 : decode cX0_init 10 = .ok (.putfield 11, 3) := by decide +kernel
theorem dX0_init_13 : decode cX0_init 13 = .ok (.iconst 0, 1) := by decide +kernel
theorem dX0_init_14 : decode cX0_init 14 = .ok (.istore_n 1, 1) := by decide +kernel
theorem dX0_init_15 : decode cX0_init 15 = .ok (.iload_n 1, 1) := by decide +kernel
theorem dX0_init_16 : decode cX0_init 16 = .ok (.aload_n 0, 1) := by decide +kernel
theorem dX0_init_17 : decode cX0_init 17 = .ok (.getfield 11, 3) := by decide +kernel
theorem dX0_init_20 : decode cX0_init 20 = .ok (.arraylength, 1) := by decide +kernel
theorem dX0_init_21 : decode cX0_init 21 = .ok (.if_icmp .ge 22, 3) := by decide +kernel
theorem dX0_init_24 : decode cX0_init 24 = .ok (.aload_n 0, 1) := by decide +kernel
theorem dX0_init_25 : decode cX0_init 25 = .ok (.getfield 11, 3) := by decide +kernel
theorem dX0_init_28 : decode cX0_init 28 = .ok (.iload_n 1, 1) := by decide +kernel
theorem dX0_init_29 : decode cX0_init 29 = .ok (.new 9, 3) := by decide +kernel
theorem dX0_init_32 : decode cX0_init 32 = .ok (.dup, 1) := by decide +kernel
theorem dX0_init_33 : decode cX0_init 33 = .ok (.invokespecial 15, 3) := by decide +kernel
theorem dX0_init_36 : decode cX0_init 36 = .ok (.aastore, 1) := by decide +kernel
theorem dX0_init_37 : decode cX0_init 37 = .ok (.iinc 1 1, 3) := by decide +kernel
theorem dX0_init_40 : decode cX0_init 40 = .ok (.goto (-25), 3) := by decide +kernel
theorem dX0_init_43 : decode cX0_init 43 = .ok (.return_, 1) := by decide +kernel
theorem dX0_remember_0 : decode cX0_remember 0 = .ok (.aload_n 0, 1) := by decide +kernel
theorem dX0_remember_1 : decode cX0_remember 1 = .ok (.getfield 16, 3) := by decide +kernel
theorem dX0_remember_4 : decode cX0_remember 4 = .ok (.bipush 14, 2) := by decide +kernel
theorem dX0_remember_6 : decode cX0_remember 6 = .ok (.if_icmp .ne 26, 3) := by decide +kernel
theorem dX0_remember_9 : decode cX0_remember 9 = .ok (.aload_n 0, 1) := by decide +kernel
theorem dX0_remember_10 : decode cX0_remember 10 = .ok (.aload_n 0, 1) := by decide +kernel
theorem dX0_remember_11 : decode cX0_remember 11 = .ok (.getfield 20, 3) := by decide +kernel
theorem dX0_remember_14 : decode cX0_remember 14 = .ok (.iconst 1, 1) := by decide +kernel
theorem dX0_remember_15 : decode cX0_remember 15 = .ok (.iadd, 1) := by decide +kernel
theorem dX0_remember_16 : decode cX0_remember 16 = .ok (.bipush 14, 2) := by decide +kernel
theorem dX0_remember_18 : decode cX0_remember 18 = .ok (.irem, 1) := by decide +kernel
theorem dX0_remember_19 : decode cX0_remember 19 = .ok (.putfield 20, 3) := by decide +kernel
theorem dX0_remember_22 : decode cX0_remember 22 = .ok (.aload_n 0, 1) := by decide +kernel
theorem dX0_remember_23 : decode cX0_remember 23 = .ok (.dup, 1) := by decide +kernel
theorem dX0_remember_24 : decode cX0_remember 24 = .ok (.getfield 16, 3) := by decide +kernel
theorem dX0_remember_27 : decode cX0_remember 27 = .ok (.iconst 1, 1) := by decide +kernel
theorem dX0_remember_28 : decode cX0_remember 28 = .ok (.isub, 1) := by decide +kernel
theorem dX0_remember_29 : decode cX0_remember 29 = .ok (.putfield 16, 3) := by decide +kernel
theorem dX0_remember_32 : decode cX0_remember 32 = .ok (.aload_n 0, 1) := by decide +kernel
theorem dX0_remember_33 : decode cX0_remember 33 = .ok (.aload_n 0, 1) := by decide +kernel
theorem dX0_remember_34 : decode cX0_remember 34 = .ok (.getfield 16, 3) := by decide +kernel
theorem dX0_remember_37 : decode cX0_remember 37 = .ok (.invokevirtual 23, 3) := by decide +kernel
theorem dX0_remember_40 : decode cX0_remember 40 = .ok (.astore_n 2, 1) := by decide +kernel
theorem dX0_remember_41 : decode cX0_remember 41 = .ok (.aload_n 2, 1) := by decide +kernel
theorem dX0_remember_42 : decode cX0_remember 42 = .ok (.ifnull 18, 3) := by decide +kernel
theorem dX0_remember_45 : decode cX0_remember 45 = .ok (.aload_n 2, 1) := by decide +kernel
theorem dX0_remember_46 : decode cX0_remember 46 = .ok (.aload_n 1, 1) := by decide +kernel
theorem dX0_remember_47 : decode cX0_remember 47 = .ok (.invokevirtual 27, 3) := by decide +kernel
theorem dX0_remember_50 : decode cX0_remember 50 = .ok (.aload_n 0, 1) := by decide +kernel
theorem dX0_remember_51 : decode cX0_remember 51 = .ok (.dup, 1) := by decide +kernel
theorem dX0_remember_52 : decode cX0_remember 52 = .ok (.getfield 16, 3) := by decide +kernel
theorem dX0_remember_55 : decode cX0_remember 55 = .ok (.iconst 1, 1) := by decide +kernel
theorem dX0_remember_56 : decode cX0_remember 56 = .ok (.iadd, 1) := by decide +kernel
theorem dX0_remember_57 : decode cX0_remember 57 = .ok (.putfield 16, 3) := by decide +kernel
theorem dX0_remember_60 : decode cX0_remember 60 = .ok (.return_, 1) := by decide +kernel
theorem dX0_bringBack_0 : decode cX0_bringBack 0 = .ok (.aload_n 0, 1) := by decide +kernel
theorem dX0_bringBack_1 : decode cX0_bringBack 1 = .ok (.getfield 16, 3) := by decide +kernel
theorem dX0_bringBack_4 : decode cX0_bringBack 4 = .ok (.ifCond .le 16, 3) := by decide +kernel
theorem dX0_bringBack_7 : decode cX0_bringBack 7 = .ok (.aload_n 0, 1) := by decide +kernel
theorem dX0_bringBack_8 : decode cX0_bringBack 8 = .ok (.aload_n 0, 1) := by decide +kernel
theorem dX0_bringBack_9 : decode cX0_bringBack 9 = .ok (.getfield 16, 3) := by decide +kernel
theorem dX0_bringBack_12 : decode cX0_bringBack 12 = .ok (.iconst 1, 1) := by decide +kernel
theorem dX0_bringBack_13 : decode cX0_bringBack 13 = .ok (.isub, 1) := by decide +kernel
theorem dX0_bringBack_14 : decode cX0_bringBack 14 = .ok (.invokevirtual 23, 3) := by decide +kernel
theorem dX0_bringBack_17 : decode cX0_bringBack 17 = .ok (.goto 4, 3) := by decide +kernel
theorem dX0_bringBack_20 : decode cX0_bringBack 20 = .ok (.aconst_null, 1) := by decide +kernel
theorem dX0_bringBack_21 : decode cX0_bringBack 21 = .ok (.astore_n 2, 1) := by decide +kernel
theorem dX0_bringBack_22 : decode cX0_bringBack 22 = .ok (.aload_n 2, 1) := by decide +kernel
theorem dX0_bringBack_23 : decode cX0_bringBack 23 = .ok (.ifnonnull 5, 3) := by decide +kernel
theorem dX0_bringBack_26 : decode cX0_bringBack 26 = .ok (.iconst 0, 1) := by decide +kernel
theorem dX0_bringBack_27 : decode cX0_bringBack 27 = .ok (.ireturn, 1) := by decide +kernel
theorem dX0_bringBack_28 : decode cX0_bringBack 28 = .ok (.aload_n 1, 1) := by decide +kernel
theorem dX0_bringBack_29 : decode cX0_bringBack 29 = .ok (.aload_n 2, 1) := by decide +kernel
theorem dX0_bringBack_30 : decode cX0_bringBack 30 = .ok (.invokevirtual 27, 3) := by decide +kernel
theorem dX0_bringBack_33 : decode cX0_bringBack 33 = .ok (.aload_n 0, 1) := by decide +kernel
theorem dX0_bringBack_34 : decode cX0_bringBack 34 = .ok (.dup, 1) := by decide +kernel
theorem dX0_bringBack_35 : decode cX0_bringBack 35 = .ok (.getfield 16, 3) := by decide +kernel
theorem dX0_bringBack_38 : decode cX0_bringBack 38 = .ok (.iconst 1, 1) := by decide +kernel
theorem dX0_bringBack_39 : decode cX0_bringBack 39 = .ok (.isub, 1) := by decide +kernel
theorem dX0_bringBack_40 : decode cX0_bringBack 40 = .ok (.putfield 16, 3) := by decide +kernel
theorem dX0_bringBack_43 : decode cX0_bringBack 43 = .ok (.iconst 1, 1) := by decide +kernel
theorem dX0_bringBack_44 : decode cX0_bringBack 44 = .ok (.ireturn, 1) := by decide +kernel
theorem dX0_stateAt_0 : decode cX0_stateAt 0 = .ok (.aload_n 0, 1) := by decide +kernel
theorem dX0_stateAt_1 : decode cX0_stateAt 1 = .ok (.getfield 20, 3) := by decide +kernel
theorem dX0_stateAt_4 : decode cX0_stateAt 4 = .ok (.iload_n 1, 1) := by decide +kernel
theorem dX0_stateAt_5 : decode cX0_stateAt 5 = .ok (.iadd, 1) := by decide +kernel
theorem dX0_stateAt_6 : decode cX0_stateAt 6 = .ok (.bipush 14, 2) := by decide +kernel
theorem dX0_stateAt_8 : decode cX0_stateAt 8 = .ok (.irem, 1) := by decide +kernel
theorem dX0_stateAt_9 : decode cX0_stateAt 9 = .ok (.istore_n 2, 1) := by decide +kernel
theorem dX0_stateAt_10 : decode cX0_stateAt 10 = .ok (.iload_n 2, 1) := by decide +kernel
theorem dX0_stateAt_11 : decode cX0_stateAt 11 = .ok (.ifCond .lt 21, 3) := by decide +kernel
theorem dX0_stateAt_14 : decode cX0_stateAt 14 = .ok (.iload_n 2, 1) := by decide +kernel
theorem dX0_stateAt_15 : decode cX0_stateAt 15 = .ok (.aload_n 0, 1) := by decide +kernel
theorem dX0_stateAt_16 : decode cX0_stateAt 16 = .ok (.getfield 11, 3) := by decide +kernel
theorem dX0_stateAt_19 : decode cX0_stateAt 19 = .ok (.arraylength, 1) := by decide +kernel
theorem dX0_stateAt_20 : decode cX0_stateAt 20 = .ok (.if_icmp .ge 12, 3) := by decide +kernel
theorem dX0_stateAt_23 : decode cX0_stateAt 23 = .ok (.aload_n 0, 1) := by decide +kernel
theorem dX0_stateAt_24 : decode cX0_stateAt 24 = .ok (.getfield 11, 3) := by decide +kernel
theorem dX0_stateAt_27 : decode cX0_stateAt 27 = .ok (.iload_n 2, 1) := by decide +kernel
theorem dX0_stateAt_28 : decode cX0_stateAt 28 = .ok (.aaload, 1) := by decide +kernel
theorem dX0_stateAt_29 : decode cX0_stateAt 29 = .ok (.goto 4, 3) := by decide +kernel
theorem dX0_stateAt_32 : decode cX0_stateAt 32 = .ok (.aconst_null, 1) := by decide +kernel
theorem dX0_stateAt_33 : decode cX0_stateAt 33 = .ok (.areturn, 1) := by decide +kernel
theorem dX1_init_0 : decode cX1_init 0 = .ok (.aload_n 0, 1) := by decide +kernel
theorem dX1_init_1 : decode cX1_init 1 = .ok (.invokespecial 3, 3) := by decide +kernel
theorem dX1_init_4 : decode cX1_init 4 = .ok (.return_, 1) := by decide +kernel
theorem dX1_findRests_0 : decode cX1_findRests 0 = .ok (.aload_n 0, 1) := by decide +kernel
theorem dX1_findRests_1 : decode cX1_findRests 1 = .ok (.iload_n 1, 1) := by decide +kernel
theorem dX1_findRests_2 : decode cX1_findRests 2 = .ok (.putfield 9, 3) := by decide +kernel
theorem dX1_findRests_5 : decode cX1_findRests 5 = .ok (.aload_n 0, 1) := by decide +kernel
theorem dX1_findRests_6 : decode cX1_findRests 6 = .ok (.iload_n 2, 1) := by decide +kernel
theorem dX1_findRests_7 : decode cX1_findRests 7 = .ok (.putfield 15, 3) := by decide +kernel
theorem dX1_findRests_10 : decode cX1_findRests 10 = .ok (.aload_n 0, 1) := by decide +kernel
theorem dX1_findRests_11 : decode cX1_findRests 11 = .ok (.iload_n 3, 1) := by decide +kernel
theorem dX1_findRests_12 : decode cX1_findRests 12 = .ok (.putfield 18, 3) := by decide +kernel
theorem dX1_findRests_15 : decode cX1_findRests 15 = .ok (.aload_n 0, 1) := by decide +kernel
theorem dX1_findRests_16 : decode cX1_findRests 16 = .ok (.iconst 0, 1) := by decide +kernel
theorem dX1_findRests_17 : decode cX1_findRests 17 = .ok (.putfield 22, 3) := by decide +kernel
theorem dX1_findRests_20 : decode cX1_findRests 20 = .ok (.aload_n 0, 1) := by decide +kernel
theorem dX1_findRests_21 : decode cX1_findRests 21 = .ok (.bipush (-9), 2) := by decide +kernel
theorem dX1_findRests_23 : decode cX1_findRests 23 = .ok (.putfield 25, 3) := by decide +kernel
theorem dX1_findRests_26 : decode cX1_findRests 26 = .ok (.iconst 0, 1) := by decide +kernel
theorem dX1_findRests_27 : decode cX1_findRests 27 = .ok (.istore 4, 2) := by decide +kernel
theorem dX1_findRests_29 : decode cX1_findRests 29 = .ok (.iload 4, 2) := by decide +kernel
theorem dX1_findRests_31 : decode cX1_findRests 31 = .ok (.iconst 5, 1) := by decide +kernel
theorem dX1_findRests_32 : decode cX1_findRests 32 = .ok (.if_icmp .gt 71, 3) := by decide +kernel
theorem dX1_findRests_35 : decode cX1_findRests 35 = .ok (.iconst 0, 1) := by decide +kernel
theorem dX1_findRests_36 : decode cX1_findRests 36 = .ok (.istore 5, 2) := by decide +kernel
theorem dX1_findRests_38 : decode cX1_findRests 38 = .ok (.iload 5, 2) := by decide +kernel
theorem dX1_findRests_40 : decode cX1_findRests 40 = .ok (.iconst 5, 1) := by decide +kernel
theorem dX1_findRests_41 : decode cX1_findRests 41 = .ok (.if_icmp .gt 56, 3) := by decide +kernel
theorem dX1_findRests_44 : decode cX1_findRests 44 = .ok (.aload_n 0, 1) := by decide +kernel
theorem dX1_findRests_45 : decode cX1_findRests 45 = .ok (.iload 4, 2) := by decide +kernel
theorem dX1_findRests_47 : decode cX1_findRests 47 = .ok (.iload 5, 2) := by decide +kernel
theorem dX1_findRests_49 : decode cX1_findRests 49 = .ok (.invokevirtual 28, 3) := by decide +kernel
theorem dX1_findRests_52 : decode cX1_findRests 52 = .ok (.ifCond .eq 39, 3) := by decide +kernel
theorem dX1_findRests_55 : decode cX1_findRests 55 = .ok (.aload_n 0, 1) := by decide +kernel
theorem dX1_findRests_56 : decode cX1_findRests 56 = .ok (.aload_n 0, 1) := by decide +kernel
theorem dX1_findRests_57 : decode cX1_findRests 57 = .ok (.getfield 22, 3) := by decide +kernel
theorem dX1_findRests_60 : decode cX1_findRests 60 = .ok (.ifCond .ne 14, 3) := by decide +kernel
theorem dX1_findRests_63 : decode cX1_findRests 63 = .ok (.bipush 10, 2) := by decide +kernel
theorem dX1_findRests_65 : decode cX1_findRests 65 = .ok (.iload 4, 2) := by decide +kernel
theorem dX1_findRests_67 : decode cX1_findRests 67 = .ok (.imul, 1) := by decide +kernel
theorem dX1_findRests_68 : decode cX1_findRests 68 = .ok (.iload 5, 2) := by decide +kernel
theorem dX1_findRests_70 : decode cX1_findRests 70 = .ok (.iadd, 1) := by decide +kernel
theorem dX1_findRests_71 : decode cX1_findRests 71 = .ok (.goto 7, 3) := by decide +kernel
theorem dX1_findRests_74 : decode cX1_findRests 74 = .ok (.aload_n 0, 1) := by decide +kernel
theorem dX1_findRests_75 : decode cX1_findRests 75 = .ok (.getfield 25, 3) := by decide +kernel
theorem dX1_findRests_78 : decode cX1_findRests 78 = .ok (.putfield 25, 3) := by decide +kernel
theorem dX1_findRests_81 : decode cX1_findRests 81 = .ok (.aload_n 0, 1) := by decide +kernel
theorem dX1_findRests_82 : decode cX1_findRests 82 = .ok (.dup, 1) := by decide +kernel
theorem dX1_findRests_83 : decode cX1_findRests 83 = .ok (.getfield 22, 3) := by decide +kernel
theorem dX1_findRests_86 : decode cX1_findRests 86 = .ok (.iconst 1, 1) := by decide +kernel
theorem dX1_findRests_87 : decode cX1_findRests 87 = .ok (.iadd, 1) := by decide +kernel
theorem dX1_findRests_88 : decode cX1_findRests 88 = .ok (.putfield 22, 3) := by decide +kernel
theorem dX1_findRests_91 : decode cX1_findRests 91 = .ok (.iinc 5 1, 3) := by decide +kernel
theorem dX1_findRests_94 : decode cX1_findRests 94 = .ok (.goto (-56), 3) := by decide +kernel
theorem dX1_findRests_97 : decode cX1_findRests 97 = .ok (.iinc 4 1, 3) := by decide +kernel
theorem dX1_findRests_100 : decode cX1_findRests 100 = .ok (.goto (-71), 3) := by decide +kernel
theorem dX1_findRests_103 : decode cX1_findRests 103 = .ok (.return_, 1) := by decide +kernel
theorem dX1_isRest_0 : decode cX1_isRest 0 = .ok (.iconst 0, 1) := by decide +kernel
theorem dX1_isRest_1 : decode cX1_isRest 1 = .ok (.istore_n 3, 1) := by decide +kernel
theorem dX1_isRest_2 : decode cX1_isRest 2 = .ok (.iload_n 3, 1) := by decide +kernel
theorem dX1_isRest_3 : decode cX1_isRest 3 = .ok (.iconst 5, 1) := by decide +kernel
theorem dX1_isRest_4 : decode cX1_isRest 4 = .ok (.if_icmp .gt 41, 3) := by decide +kernel
theorem dX1_isRest_7 : decode cX1_isRest 7 = .ok (.aload_n 0, 1) := by decide +kernel
theorem dX1_isRest_8 : decode cX1_isRest 8 = .ok (.iload_n 3, 1) := by decide +kernel
theorem dX1_isRest_9 : decode cX1_isRest 9 = .ok (.iload_n 2, 1) := by decide +kernel
theorem dX1_isRest_10 : decode cX1_isRest 10 = .ok (.invokevirtual 32, 3) := by decide +kernel
theorem dX1_isRest_13 : decode cX1_isRest 13 = .ok (.aload_n 0, 1) := by decide +kernel
theorem dX1_isRest_14 : decode cX1_isRest 14 = .ok (.iload_n 1, 1) := by decide +kernel
theorem dX1_isRest_15 : decode cX1_isRest 15 = .ok (.iload_n 2, 1) := by decide +kernel
theorem dX1_isRest_16 : decode cX1_isRest 16 = .ok (.invokevirtual 32, 3) := by decide +kernel
theorem dX1_isRest_19 : decode cX1_isRest 19 = .ok (.if_icmp .gt 18, 3) := by decide +kernel
theorem dX1_isRest_22 : decode cX1_isRest 22 = .ok (.aload_n 0, 1) := by decide +kernel
theorem dX1_isRest_23 : decode cX1_isRest 23 = .ok (.iload_n 1, 1) := by decide +kernel
theorem dX1_isRest_24 : decode cX1_isRest 24 = .ok (.iload_n 3, 1) := by decide +kernel
theorem dX1_isRest_25 : decode cX1_isRest 25 = .ok (.invokevirtual 36, 3) := by decide +kernel
theorem dX1_isRest_28 : decode cX1_isRest 28 = .ok (.aload_n 0, 1) := by decide +kernel
theorem dX1_isRest_29 : decode cX1_isRest 29 = .ok (.iload_n 1, 1) := by decide +kernel
theorem dX1_isRest_30 : decode cX1_isRest 30 = .ok (.iload_n 2, 1) := by decide +kernel
theorem dX1_isRest_31 : decode cX1_isRest 31 = .ok (.invokevirtual 36, 3) := by decide +kernel
theorem dX1_isRest_34 : decode cX1_isRest 34 = .ok (.if_icmp .le 5, 3) := by decide +kernel
theorem dX1_isRest_37 : decode cX1_isRest 37 = .ok (.iconst 0, 1) := by decide +kernel
theorem dX1_isRest_38 : decode cX1_isRest 38 = .ok (.ireturn, 1) := by decide +kernel
theorem dX1_isRest_39 : decode cX1_isRest 39 = .ok (.iinc 3 1, 3) := by decide +kernel
theorem dX1_isRest_42 : decode cX1_isRest 42 = .ok (.goto (-40), 3) := by decide +kernel
theorem dX1_isRest_45 : decode cX1_isRest 45 = .ok (.iconst 1, 1) := by decide +kernel
theorem dX1_isRest_46 : decode cX1_isRest 46 = .ok (.ireturn, 1) := by decide +kernel
theorem dX1_oneWins_0 : decode cX1_oneWins 0 = .ok (.aload_n 0, 1) := by decide +kernel
theorem dX1_oneWins_1 : decode cX1_oneWins 1 = .ok (.getfield 9, 3) := by decide +kernel
theorem dX1_oneWins_4 : decode cX1_oneWins 4 = .ok (.iconst 5, 1) := by decide +kernel
theorem dX1_oneWins_5 : decode cX1_oneWins 5 = .ok (.iload_n 1, 1) := by decide +kernel
theorem dX1_oneWins_6 : decode cX1_oneWins 6 = .ok (.imul, 1) := by decide +kernel
theorem dX1_oneWins_7 : decode cX1_oneWins 7 = .ok (.iadd, 1) := by decide +kernel
theorem dX1_oneWins_8 : decode cX1_oneWins 8 = .ok (.aload_n 0, 1) := by decide +kernel
theorem dX1_oneWins_9 : decode cX1_oneWins 9 = .ok (.getfield 15, 3) := by decide +kernel
theorem dX1_oneWins_12 : decode cX1_oneWins 12 = .ok (.isub, 1) := by decide +kernel
theorem dX1_oneWins_13 : decode cX1_oneWins 13 = .ok (.iconst 5, 1) := by decide +kernel
theorem dX1_oneWins_14 : decode cX1_oneWins 14 = .ok (.iload_n 2, 1) := by decide +kernel
theorem dX1_oneWins_15 : decode cX1_oneWins 15 = .ok (.imul, 1) := by decide +kernel
theorem dX1_oneWins_16 : decode cX1_oneWins 16 = .ok (.isub, 1) := by decide +kernel
theorem dX1_oneWins_17 : decode cX1_oneWins 17 = .ok (.istore_n 3, 1) := by decide +kernel
theorem dX1_oneWins_18 : decode cX1_oneWins 18 = .ok (.iload_n 3, 1) := by decide +kernel
theorem dX1_oneWins_19 : decode cX1_oneWins 19 = .ok (.ifCond .gt 14, 3) := by decide +kernel
theorem dX1_oneWins_22 : decode cX1_oneWins 22 = .ok (.iload_n 3, 1) := by decide +kernel
theorem dX1_oneWins_23 : decode cX1_oneWins 23 = .ok (.ifCond .ne 14, 3) := by decide +kernel
theorem dX1_oneWins_26 : decode cX1_oneWins 26 = .ok (.aload_n 0, 1) := by decide +kernel
theorem dX1_oneWins_27 : decode cX1_oneWins 27 = .ok (.getfield 18, 3) := by decide +kernel
theorem dX1_oneWins_30 : decode cX1_oneWins 30 = .ok (.ifCond .eq 7, 3) := by decide +kernel
theorem dX1_oneWins_33 : decode cX1_oneWins 33 = .ok (.iconst 1, 1) := by decide +kernel
theorem dX1_oneWins_34 : decode cX1_oneWins 34 = .ok (.goto 4, 3) := by decide +kernel
theorem dX1_oneWins_37 : decode cX1_oneWins 37 = .ok (.iconst 0, 1) := by decide +kernel
theorem dX1_oneWins_38 : decode cX1_oneWins 38 = .ok (.ireturn, 1) := by decide +kernel
theorem dX1_gainOfOne_0 : decode cX1_gainOfOne 0 = .ok (.aload_n 0, 1) := by decide +kernel
theorem dX1_gainOfOne_1 : decode cX1_gainOfOne 1 = .ok (.iload_n 1, 1) := by decide +kernel
theorem dX1_gainOfOne_2 : decode cX1_gainOfOne 2 = .ok (.iload_n 2, 1) := by decide +kernel
theorem dX1_gainOfOne_3 : decode cX1_gainOfOne 3 = .ok (.invokevirtual 39, 3) := by decide +kernel
theorem dX1_gainOfOne_6 : decode cX1_gainOfOne 6 = .ok (.ifCond .eq 8, 3) := by decide +kernel
theorem dX1_gainOfOne_9 : decode cX1_gainOfOne 9 = .ok (.bipush 6, 2) := by decide +kernel
theorem dX1_gainOfOne_11 : decode cX1_gainOfOne 11 = .ok (.goto 4, 3) := by decide +kernel
theorem dX1_gainOfOne_14 : decode cX1_gainOfOne 14 = .ok (.iconst 0, 1) := by decide +kernel
theorem dX1_gainOfOne_15 : decode cX1_gainOfOne 15 = .ok (.iload_n 1, 1) := by decide +kernel
theorem dX1_gainOfOne_16 : decode cX1_gainOfOne 16 = .ok (.isub, 1) := by decide +kernel
theorem dX1_gainOfOne_17 : decode cX1_gainOfOne 17 = .ok (.ireturn, 1) := by decide +kernel
theorem dX1_gainOfOther_0 : decode cX1_gainOfOther 0 = .ok (.aload_n 0, 1) := by decide +kernel
theorem dX1_gainOfOther_1 : decode cX1_gainOfOther 1 = .ok (.iload_n 1, 1) := by decide +kernel
theorem dX1_gainOfOther_2 : decode cX1_gainOfOther 2 = .ok (.iload_n 2, 1) := by decide +kernel
theorem dX1_gainOfOther_3 : decode cX1_gainOfOther 3 = .ok (.invokevirtual 39, 3) := by decide +kernel
theorem dX1_gainOfOther_6 : decode cX1_gainOfOther 6 = .ok (.ifCond .eq 7, 3) := by decide +kernel
theorem dX1_gainOfOther_9 : decode cX1_gainOfOther 9 = .ok (.iconst 0, 1) := by decide +kernel
theorem dX1_gainOfOther_10 : decode cX1_gainOfOther 10 = .ok (.goto 5, 3) := by decide +kernel
theorem dX1_gainOfOther_13 : decode cX1_gainOfOther 13 = .ok (.bipush 6, 2) := by decide +kernel
theorem dX1_gainOfOther_15 : decode cX1_gainOfOther 15 = .ok (.iload_n 2, 1) := by decide +kernel
theorem dX1_gainOfOther_16 : decode cX1_gainOfOther 16 = .ok (.isub, 1) := by decide +kernel
theorem dX1_gainOfOther_17 : decode cX1_gainOfOther 17 = .ok (.ireturn, 1) := by decide +kernel
theorem dX2_init_0 : decode cX2_init 0 = .ok (.aload_n 0, 1) := by decide +kernel
theorem dX2_init_1 : decode cX2_init 1 = .ok (.invokespecial 3, 3) := by decide +kernel
theorem dX2_init_4 : decode cX2_init 4 = .ok (.aload_n 0, 1) := by decide +kernel
theorem dX2_init_5 : decode cX2_init 5 = .ok (.bipush 6, 2) := by decide +kernel
theorem dX2_init_7 : decode cX2_init 7 = .ok (.newarray .int, 2) := by decide +kernel
theorem dX2_init_9 : decode cX2_init 9 = .ok (.putfield 11, 3) := by decide +kernel
theorem dX2_init_12 : decode cX2_init 12 = .ok (.aload_n 0, 1) := by decide +kernel
theorem dX2_init_13 : decode cX2_init 13 = .ok (.bipush 6, 2) := by decide +kernel
theorem dX2_init_15 : decode cX2_init 15 = .ok (.newarray .int, 2) := by decide +kernel
theorem dX2_init_17 : decode cX2_init 17 = .ok (.putfield 15, 3) := by decide +kernel
theorem dX2_init_20 : decode cX2_init 20 = .ok (.return_, 1) := by decide +kernel
theorem dX2_add_0 : decode cX2_add 0 = .ok (.aload_n 0, 1) := by decide +kernel
theorem dX2_add_1 : decode cX2_add 1 = .ok (.getfield 18, 3) := by decide +kernel
theorem dX2_add_4 : decode cX2_add 4 = .ok (.bipush 6, 2) := by decide +kernel
theorem dX2_add_6 : decode cX2_add 6 = .ok (.if_icmp .lt 5, 3) := by decide +kernel
theorem dX2_add_9 : decode cX2_add 9 = .ok (.iconst 0, 1) := by decide +kernel
theorem dX2_add_10 : decode cX2_add 10 = .ok (.ireturn, 1) := by decide +kernel
theorem dX2_add_11 : decode cX2_add 11 = .ok (.aload_n 0, 1) := by decide +kernel
theorem dX2_add_12 : decode cX2_add 12 = .ok (.getfield 11, 3) := by decide +kernel
theorem dX2_add_15 : decode cX2_add 15 = .ok (.aload_n 0, 1) := by decide +kernel
theorem dX2_add_16 : decode cX2_add 16 = .ok (.getfield 18, 3) := by decide +kernel
theorem dX2_add_19 : decode cX2_add 19 = .ok (.iload_n 1, 1) := by decide +kernel
theorem dX2_add_20 : decode cX2_add 20 = .ok (.invokestatic 22, 3) := by decide +kernel
theorem dX2_add_23 : decode cX2_add 23 = .ok (.aload_n 0, 1) := by decide +kernel
theorem dX2_add_24 : decode cX2_add 24 = .ok (.getfield 15, 3) := by decide +kernel
theorem dX2_add_27 : decode cX2_add 27 = .ok (.aload_n 0, 1) := by decide +kernel
theorem dX2_add_28 : decode cX2_add 28 = .ok (.getfield 18, 3) := by decide +kernel
theorem dX2_add_31 : decode cX2_add 31 = .ok (.iload_n 2, 1) := by decide +kernel
theorem dX2_add_32 : decode cX2_add 32 = .ok (.invokestatic 22, 3) := by decide +kernel
theorem dX2_add_35 : decode cX2_add 35 = .ok (.aload_n 0, 1) := by decide +kernel
theorem dX2_add_36 : decode cX2_add 36 = .ok (.dup, 1) := by decide +kernel
theorem dX2_add_37 : decode cX2_add 37 = .ok (.getfield 18, 3) := by decide +kernel
theorem dX2_add_40 : decode cX2_add 40 = .ok (.iconst 1, 1) := by decide +kernel
theorem dX2_add_41 : decode cX2_add 41 = .ok (.iadd, 1) := by decide +kernel
theorem dX2_add_42 : decode cX2_add 42 = .ok (.putfield 18, 3) := by decide +kernel
theorem dX2_add_45 : decode cX2_add 45 = .ok (.iconst 1, 1) := by decide +kernel
theorem dX2_add_46 : decode cX2_add 46 = .ok (.ireturn, 1) := by decide +kernel
theorem dX2_learntBits_0 : decode cX2_learntBits 0 = .ok (.ldc2_w 26, 3) := by decide +kernel
theorem dX2_learntBits_3 : decode cX2_learntBits 3 = .ok (.lstore_n 2, 1) := by decide +kernel
theorem dX2_learntBits_4 : decode cX2_learntBits 4 = .ok (.iconst 0, 1) := by decide +kernel
theorem dX2_learntBits_5 : decode cX2_learntBits 5 = .ok (.istore 4, 2) := by decide +kernel
theorem dX2_learntBits_7 : decode cX2_learntBits 7 = .ok (.iload 4, 2) := by decide +kernel
theorem dX2_learntBits_9 : decode cX2_learntBits 9 = .ok (.aload_n 0, 1) := by decide +kernel
theorem dX2_learntBits_10 : decode cX2_learntBits 10 = .ok (.getfield 18, 3) := by decide +kernel
theorem dX2_learntBits_13 : decode cX2_learntBits 13 = .ok (.if_icmp .ge 61, 3) := by decide +kernel
theorem dX2_learntBits_16 : decode cX2_learntBits 16 = .ok (.aload_n 0, 1) := by decide +kernel
theorem dX2_learntBits_17 : decode cX2_learntBits 17 = .ok (.getfield 11, 3) := by decide +kernel
theorem dX2_learntBits_20 : decode cX2_learntBits 20 = .ok (.iload 4, 2) := by decide +kernel
theorem dX2_learntBits_22 : decode cX2_learntBits 22 = .ok (.invokestatic 28, 3) := by decide +kernel
theorem dX2_learntBits_25 : decode cX2_learntBits 25 = .ok (.istore 5, 2) := by decide +kernel
theorem dX2_learntBits_27 : decode cX2_learntBits 27 = .ok (.aload_n 0, 1) := by decide +kernel
theorem dX2_learntBits_28 : decode cX2_learntBits 28 = .ok (.getfield 15, 3) := by decide +kernel
theorem dX2_learntBits_31 : decode cX2_learntBits 31 = .ok (.iload 4, 2) := by decide +kernel
theorem dX2_learntBits_33 : decode cX2_learntBits 33 = .ok (.invokestatic 28, 3) := by decide +kernel
theorem dX2_learntBits_36 : decode cX2_learntBits 36 = .ok (.istore 6, 2) := by decide +kernel
theorem dX2_learntBits_38 : decode cX2_learntBits 38 = .ok (.aload_n 1, 1) := by decide +kernel
theorem dX2_learntBits_39 : decode cX2_learntBits 39 = .ok (.iload 5, 2) := by decide +kernel
theorem dX2_learntBits_41 : decode cX2_learntBits 41 = .ok (.invokevirtual 32, 3) := by decide +kernel
theorem dX2_learntBits_44 : decode cX2_learntBits 44 = .ok (.ifCond .eq 24, 3) := by decide +kernel
theorem dX2_learntBits_47 : decode cX2_learntBits 47 = .ok (.aload_n 1, 1) := by decide +kernel
theorem dX2_learntBits_48 : decode cX2_learntBits 48 = .ok (.iload 6, 2) := by decide +kernel
theorem dX2_learntBits_50 : decode cX2_learntBits 50 = .ok (.invokevirtual 32, 3) := by decide +kernel
theorem dX2_learntBits_53 : decode cX2_learntBits 53 = .ok (.ifCond .eq 15, 3) := by decide +kernel
theorem dX2_learntBits_56 : decode cX2_learntBits 56 = .ok (.lload_n 2, 1) := by decide +kernel
theorem dX2_learntBits_57 : decode cX2_learntBits 57 = .ok (.aload_n 0, 1) := by decide +kernel
theorem dX2_learntBits_58 : decode cX2_learntBits 58 = .ok (.aload_n 1, 1) := by decide +kernel
theorem dX2_learntBits_59 : decode cX2_learntBits 59 = .ok (.iload 5, 2) := by decide +kernel
theorem dX2_learntBits_61 : decode cX2_learntBits 61 = .ok (.iload 6, 2) := by decide +kernel
theorem dX2_learntBits_63 : decode cX2_learntBits 63 = .ok (.invokevirtual 38, 3) := by decide +kernel
theorem dX2_learntBits_66 : decode cX2_learntBits 66 = .ok (.land, 1) := by decide +kernel
theorem dX2_learntBits_67 : decode cX2_learntBits 67 = .ok (.lstore_n 2, 1) := by decide +kernel
theorem dX2_learntBits_68 : decode cX2_learntBits 68 = .ok (.iinc 4 1, 3) := by decide +kernel
theorem dX2_learntBits_71 : decode cX2_learntBits 71 = .ok (.goto (-64), 3) := by decide +kernel
theorem dX2_learntBits_74 : decode cX2_learntBits 74 = .ok (.lload_n 2, 1) := by decide +kernel
theorem dX2_learntBits_75 : decode cX2_learntBits 75 = .ok (.lreturn, 1) := by decide +kernel
theorem dX2_likingBits_0 : decode cX2_likingBits 0 = .ok (.lconst 0, 1) := by decide +kernel
theorem dX2_likingBits_1 : decode cX2_likingBits 1 = .ok (.lstore 4, 2) := by decide +kernel
theorem dX2_likingBits_3 : decode cX2_likingBits 3 = .ok (.iconst 0, 1) := by decide +kernel
theorem dX2_likingBits_4 : decode cX2_likingBits 4 = .ok (.istore 6, 2) := by decide +kernel
theorem dX2_likingBits_6 : decode cX2_likingBits 6 = .ok (.iload 6, 2) := by decide +kernel
theorem dX2_likingBits_8 : decode cX2_likingBits 8 = .ok (.bipush 64, 2) := by decide +kernel
theorem dX2_likingBits_10 : decode cX2_likingBits 10 = .ok (.if_icmp .ge 76, 3) := by decide +kernel
theorem dX2_likingBits_13 : decode cX2_likingBits 13 = .ok (.aload_n 1, 1) := by decide +kernel
theorem dX2_likingBits_14 : decode cX2_likingBits 14 = .ok (.iload_n 2, 1) := by decide +kernel
theorem dX2_likingBits_15 : decode cX2_likingBits 15 = .ok (.iload 6, 2) := by decide +kernel
theorem dX2_likingBits_17 : decode cX2_likingBits 17 = .ok (.bipush 16, 2) := by decide +kernel
theorem dX2_likingBits_19 : decode cX2_likingBits 19 = .ok (.idiv, 1) := by decide +kernel
theorem dX2_likingBits_20 : decode cX2_likingBits 20 = .ok (.iload 6, 2) := by decide +kernel
theorem dX2_likingBits_22 : decode cX2_likingBits 22 = .ok (.iconst 4, 1) := by decide +kernel
theorem dX2_likingBits_23 : decode cX2_likingBits 23 = .ok (.idiv, 1) := by decide +kernel
theorem dX2_likingBits_24 : decode cX2_likingBits 24 = .ok (.iconst 4, 1) := by decide +kernel
theorem dX2_likingBits_25 : decode cX2_likingBits 25 = .ok (.irem, 1) := by decide +kernel
theorem dX2_likingBits_26 : decode cX2_likingBits 26 = .ok (.iload 6, 2) := by decide +kernel
theorem dX2_likingBits_28 : decode cX2_likingBits 28 = .ok (.iconst 4, 1) := by decide +kernel
theorem dX2_likingBits_29 : decode cX2_likingBits 29 = .ok (.irem, 1) := by decide +kernel
theorem dX2_likingBits_30 : decode cX2_likingBits 30 = .ok (.invokevirtual 42, 3) := by decide +kernel
theorem dX2_likingBits_33 : decode cX2_likingBits 33 = .ok (.aload_n 1, 1) := by decide +kernel
theorem dX2_likingBits_34 : decode cX2_likingBits 34 = .ok (.iload_n 3, 1) := by decide +kernel
theorem dX2_likingBits_35 : decode cX2_likingBits 35 = .ok (.iload 6, 2) := by decide +kernel
theorem dX2_likingBits_37 : decode cX2_likingBits 37 = .ok (.bipush 16, 2) := by decide +kernel
theorem dX2_likingBits_39 : decode cX2_likingBits 39 = .ok (.idiv, 1) := by decide +kernel
theorem dX2_likingBits_40 : decode cX2_likingBits 40 = .ok (.iload 6, 2) := by decide +kernel
theorem dX2_likingBits_42 : decode cX2_likingBits 42 = .ok (.iconst 4, 1) := by decide +kernel
theorem dX2_likingBits_43 : decode cX2_likingBits 43 = .ok (.idiv, 1) := by decide +kernel
theorem dX2_likingBits_44 : decode cX2_likingBits 44 = .ok (.iconst 4, 1) := by decide +kernel
theorem dX2_likingBits_45 : decode cX2_likingBits 45 = .ok (.irem, 1) := by decide +kernel
theorem dX2_likingBits_46 : decode cX2_likingBits 46 = .ok (.iload 6, 2) := by decide +kernel
theorem dX2_likingBits_48 : decode cX2_likingBits 48 = .ok (.iconst 4, 1) := by decide +kernel
theorem dX2_likingBits_49 : decode cX2_likingBits 49 = .ok (.irem, 1) := by decide +kernel
theorem dX2_likingBits_50 : decode cX2_likingBits 50 = .ok (.invokevirtual 42, 3) := by decide +kernel
theorem dX2_likingBits_53 : decode cX2_likingBits 53 = .ok (.isub, 1) := by decide +kernel
theorem dX2_likingBits_54 : decode cX2_likingBits 54 = .ok (.istore 7, 2) := by decide +kernel
theorem dX2_likingBits_56 : decode cX2_likingBits 56 = .ok (.iload 7, 2) := by decide +kernel
theorem dX2_likingBits_58 : decode cX2_likingBits 58 = .ok (.ifCond .gt 13, 3) := by decide +kernel
theorem dX2_likingBits_61 : decode cX2_likingBits 61 = .ok (.iload 7, 2) := by decide +kernel
theorem dX2_likingBits_63 : decode cX2_likingBits 63 = .ok (.ifCond .ne 17, 3) := by decide +kernel
theorem dX2_likingBits_66 : decode cX2_likingBits 66 = .ok (.iload_n 2, 1) := by decide +kernel
theorem dX2_likingBits_67 : decode cX2_likingBits 67 = .ok (.iload_n 3, 1) := by decide +kernel
theorem dX2_likingBits_68 : decode cX2_likingBits 68 = .ok (.if_icmp .ge 12, 3) := by decide +kernel
theorem dX2_likingBits_71 : decode cX2_likingBits 71 = .ok (.lload 4, 2) := by decide +kernel
theorem dX2_likingBits_73 : decode cX2_likingBits 73 = .ok (.lconst 1, 1) := by decide +kernel
theorem dX2_likingBits_74 : decode cX2_likingBits 74 = .ok (.iload 6, 2) := by decide +kernel
theorem dX2_likingBits_76 : decode cX2_likingBits 76 = .ok (.lshl, 1) := by decide +kernel
theorem dX2_likingBits_77 : decode cX2_likingBits 77 = .ok (.lor, 1) := by decide +kernel
theorem dX2_likingBits_78 : decode cX2_likingBits 78 = .ok (.lstore 4, 2) := by decide +kernel
theorem dX2_likingBits_80 : decode cX2_likingBits 80 = .ok (.iinc 6 1, 3) := by decide +kernel
theorem dX2_likingBits_83 : decode cX2_likingBits 83 = .ok (.goto (-77), 3) := by decide +kernel
theorem dX2_likingBits_86 : decode cX2_likingBits 86 = .ok (.lload 4, 2) := by decide +kernel
theorem dX2_likingBits_88 : decode cX2_likingBits 88 = .ok (.lreturn, 1) := by decide +kernel
theorem dX2_leastFigures_0 : decode cX2_leastFigures 0 = .ok (.iconst 0, 1) := by decide +kernel
theorem dX2_leastFigures_1 : decode cX2_leastFigures 1 = .ok (.istore_n 2, 1) := by decide +kernel
theorem dX2_leastFigures_2 : decode cX2_leastFigures 2 = .ok (.iload_n 2, 1) := by decide +kernel
theorem dX2_leastFigures_3 : decode cX2_leastFigures 3 = .ok (.bipush 64, 2) := by decide +kernel
theorem dX2_leastFigures_5 : decode cX2_leastFigures 5 = .ok (.if_icmp .ge 40, 3) := by decide +kernel
theorem dX2_leastFigures_8 : decode cX2_leastFigures 8 = .ok (.lload_n 0, 1) := by decide +kernel
theorem dX2_leastFigures_9 : decode cX2_leastFigures 9 = .ok (.iload_n 2, 1) := by decide +kernel
theorem dX2_leastFigures_10 : decode cX2_leastFigures 10 = .ok (.lushr, 1) := by decide +kernel
theorem dX2_leastFigures_11 : decode cX2_leastFigures 11 = .ok (.lconst 1, 1) := by decide +kernel
theorem dX2_leastFigures_12 : decode cX2_leastFigures 12 = .ok (.land, 1) := by decide +kernel
theorem dX2_leastFigures_13 : decode cX2_leastFigures 13 = .ok (.lconst 1, 1) := by decide +kernel
theorem dX2_leastFigures_14 : decode cX2_leastFigures 14 = .ok (.lcmp, 1) := by decide +kernel
theorem dX2_leastFigures_15 : decode cX2_leastFigures 15 = .ok (.ifCond .ne 24, 3) := by decide +kernel
theorem dX2_leastFigures_18 : decode cX2_leastFigures 18 = .ok (.bipush 100, 2) := by decide +kernel
theorem dX2_leastFigures_20 : decode cX2_leastFigures 20 = .ok (.iload_n 2, 1) := by decide +kernel
theorem dX2_leastFigures_21 : decode cX2_leastFigures 21 = .ok (.bipush 16, 2) := by decide +kernel
theorem dX2_leastFigures_23 : decode cX2_leastFigures 23 = .ok (.idiv, 1) := by decide +kernel
theorem dX2_leastFigures_24 : decode cX2_leastFigures 24 = .ok (.imul, 1) := by decide +kernel
theorem dX2_leastFigures_25 : decode cX2_leastFigures 25 = .ok (.bipush 10, 2) := by decide +kernel
theorem dX2_leastFigures_27 : decode cX2_leastFigures 27 = .ok (.iload_n 2, 1) := by decide +kernel
theorem dX2_leastFigures_28 : decode cX2_leastFigures 28 = .ok (.iconst 4, 1) := by decide +kernel
theorem dX2_leastFigures_29 : decode cX2_leastFigures 29 = .ok (.idiv, 1) := by decide +kernel
theorem dX2_leastFigures_30 : decode cX2_leastFigures 30 = .ok (.iconst 4, 1) := by decide +kernel
theorem dX2_leastFigures_31 : decode cX2_leastFigures 31 = .ok (.irem, 1) := by decide +kernel
theorem dX2_leastFigures_32 : decode cX2_leastFigures 32 = .ok (.imul, 1) := by decide +kernel
theorem dX2_leastFigures_33 : decode cX2_leastFigures 33 = .ok (.iadd, 1) := by decide +kernel
theorem dX2_leastFigures_34 : decode cX2_leastFigures 34 = .ok (.iload_n 2, 1) := by decide +kernel
theorem dX2_leastFigures_35 : decode cX2_leastFigures 35 = .ok (.iconst 4, 1) := by decide +kernel
theorem dX2_leastFigures_36 : decode cX2_leastFigures 36 = .ok (.irem, 1) := by decide +kernel
theorem dX2_leastFigures_37 : decode cX2_leastFigures 37 = .ok (.iadd, 1) := by decide +kernel
theorem dX2_leastFigures_38 : decode cX2_leastFigures 38 = .ok (.ireturn, 1) := by decide +kernel
theorem dX2_leastFigures_39 : decode cX2_leastFigures 39 = .ok (.iinc 2 1, 3) := by decide +kernel
theorem dX2_leastFigures_42 : decode cX2_leastFigures 42 = .ok (.goto (-40), 3) := by decide +kernel
theorem dX2_leastFigures_45 : decode cX2_leastFigures 45 = .ok (.bipush (-9), 2) := by decide +kernel
theorem dX2_leastFigures_47 : decode cX2_leastFigures 47 = .ok (.ireturn, 1) := by decide +kernel
theorem dX3_init_0 : decode cX3_init 0 = .ok (.aload_n 0, 1) := by decide +kernel
theorem dX3_init_1 : decode cX3_init 1 = .ok (.invokespecial 3, 3) := by decide +kernel
theorem dX3_init_4 : decode cX3_init 4 = .ok (.aload_n 0, 1) := by decide +kernel
theorem dX3_init_5 : decode cX3_init 5 = .ok (.iconst 4, 1) := by decide +kernel
theorem dX3_init_6 : decode cX3_init 6 = .ok (.newarray .int, 2) := by decide +kernel
theorem dX3_init_8 : decode cX3_init 8 = .ok (.putfield 9, 3) := by decide +kernel
theorem dX3_init_11 : decode cX3_init 11 = .ok (.aload_n 0, 1) := by decide +kernel
theorem dX3_init_12 : decode cX3_init 12 = .ok (.bipush 12, 2) := by decide +kernel
theorem dX3_init_14 : decode cX3_init 14 = .ok (.newarray .int, 2) := by decide +kernel
theorem dX3_init_16 : decode cX3_init 16 = .ok (.putfield 15, 3) := by decide +kernel
theorem dX3_init_19 : decode cX3_init 19 = .ok (.aload_n 0, 1) := by decide +kernel
theorem dX3_init_20 : decode cX3_init 20 = .ok (.iconst 4, 1) := by decide +kernel
theorem dX3_init_21 : decode cX3_init 21 = .ok (.newarray .int, 2) := by decide +kernel
theorem dX3_init_23 : decode cX3_init 23 = .ok (.putfield 18, 3) := by decide +kernel
theorem dX3_init_26 : decode cX3_init 26 = .ok (.aload_n 0, 1) := by decide +kernel
theorem dX3_init_27 : decode cX3_init 27 = .ok (.iconst 4, 1) := by decide +kernel
theorem dX3_init_28 : decode cX3_init 28 = .ok (.newarray .int, 2) := by decide +kernel
theorem dX3_init_30 : decode cX3_init 30 = .ok (.putfield 21, 3) := by decide +kernel
theorem dX3_init_33 : decode cX3_init 33 = .ok (.aload_n 0, 1) := by decide +kernel
theorem dX3_init_34 : decode cX3_init 34 = .ok (.iconst 4, 1) := by decide +kernel
theorem dX3_init_35 : decode cX3_init 35 = .ok (.newarray .int, 2) := by decide +kernel
theorem dX3_init_37 : decode cX3_init 37 = .ok (.putfield 24, 3) := by decide +kernel
theorem dX3_init_40 : decode cX3_init 40 = .ok (.aload_n 0, 1) := by decide +kernel
theorem dX3_init_41 : decode cX3_init 41 = .ok (.bipush 15, 2) := by decide +kernel
theorem dX3_init_43 : decode cX3_init 43 = .ok (.newarray .int, 2) := by decide +kernel
theorem dX3_init_45 : decode cX3_init 45 = .ok (.putfield 27, 3) := by decide +kernel
theorem dX3_init_48 : decode cX3_init 48 = .ok (.aload_n 0, 1) := by decide +kernel
theorem dX3_init_49 : decode cX3_init 49 = .ok (.iconst 5, 1) := by decide +kernel
theorem dX3_init_50 : decode cX3_init 50 = .ok (.newarray .int, 2) := by decide +kernel
theorem dX3_init_52 : decode cX3_init 52 = .ok (.putfield 30, 3) := by decide +kernel
theorem dX3_init_55 : decode cX3_init 55 = .ok (.aload_n 0, 1) := by decide +kernel
theorem dX3_init_56 : decode cX3_init 56 = .ok (.bipush 20, 2) := by decide +kernel
theorem dX3_init_58 : decode cX3_init 58 = .ok (.newarray .int, 2) := by decide +kernel
theorem dX3_init_60 : decode cX3_init 60 = .ok (.putfield 33, 3) := by decide +kernel
theorem dX3_init_63 : decode cX3_init 63 = .ok (.aload_n 0, 1) := by decide +kernel
theorem dX3_init_64 : decode cX3_init 64 = .ok (.bipush 20, 2) := by decide +kernel
theorem dX3_init_66 : decode cX3_init 66 = .ok (.newarray .int, 2) := by decide +kernel
theorem dX3_init_68 : decode cX3_init 68 = .ok (.putfield 36, 3) := by decide +kernel
theorem dX3_init_71 : decode cX3_init 71 = .ok (.return_, 1) := by decide +kernel
theorem dX3_hasHorse_0 : decode cX3_hasHorse 0 = .ok (.iload_n 1, 1) := by decide +kernel
theorem dX3_hasHorse_1 : decode cX3_hasHorse 1 = .ok (.ifCond .lt 15, 3) := by decide +kernel
theorem dX3_hasHorse_4 : decode cX3_hasHorse 4 = .ok (.iload_n 1, 1) := by decide +kernel
theorem dX3_hasHorse_5 : decode cX3_hasHorse 5 = .ok (.aload_n 0, 1) := by decide +kernel
theorem dX3_hasHorse_6 : decode cX3_hasHorse 6 = .ok (.getfield 39, 3) := by decide +kernel
theorem dX3_hasHorse_9 : decode cX3_hasHorse 9 = .ok (.if_icmp .ge 7, 3) := by decide +kernel
theorem dX3_hasHorse_12 : decode cX3_hasHorse 12 = .ok (.iconst 1, 1) := by decide +kernel
theorem dX3_hasHorse_13 : decode cX3_hasHorse 13 = .ok (.goto 4, 3) := by decide +kernel
theorem dX3_hasHorse_16 : decode cX3_hasHorse 16 = .ok (.iconst 0, 1) := by decide +kernel
theorem dX3_hasHorse_17 : decode cX3_hasHorse 17 = .ok (.ireturn, 1) := by decide +kernel
theorem dX3_hasRider_0 : decode cX3_hasRider 0 = .ok (.iload_n 1, 1) := by decide +kernel
theorem dX3_hasRider_1 : decode cX3_hasRider 1 = .ok (.ifCond .lt 15, 3) := by decide +kernel
theorem dX3_hasRider_4 : decode cX3_hasRider 4 = .ok (.iload_n 1, 1) := by decide +kernel
theorem dX3_hasRider_5 : decode cX3_hasRider 5 = .ok (.aload_n 0, 1) := by decide +kernel
theorem dX3_hasRider_6 : decode cX3_hasRider 6 = .ok (.getfield 43, 3) := by decide +kernel
theorem dX3_hasRider_9 : decode cX3_hasRider 9 = .ok (.if_icmp .ge 7, 3) := by decide +kernel
theorem dX3_hasRider_12 : decode cX3_hasRider 12 = .ok (.iconst 1, 1) := by decide +kernel
theorem dX3_hasRider_13 : decode cX3_hasRider 13 = .ok (.goto 4, 3) := by decide +kernel
theorem dX3_hasRider_16 : decode cX3_hasRider 16 = .ok (.iconst 0, 1) := by decide +kernel
theorem dX3_hasRider_17 : decode cX3_hasRider 17 = .ok (.ireturn, 1) := by decide +kernel
theorem dX3_allRiders_0 : decode cX3_allRiders 0 = .ok (.iconst 1, 1) := by decide +kernel
theorem dX3_allRiders_1 : decode cX3_allRiders 1 = .ok (.aload_n 0, 1) := by decide +kernel
theorem dX3_allRiders_2 : decode cX3_allRiders 2 = .ok (.getfield 43, 3) := by decide +kernel
theorem dX3_allRiders_5 : decode cX3_allRiders 5 = .ok (.ishl, 1) := by decide +kernel
theorem dX3_allRiders_6 : decode cX3_allRiders 6 = .ok (.iconst 1, 1) := by decide +kernel
theorem dX3_allRiders_7 : decode cX3_allRiders 7 = .ok (.isub, 1) := by decide +kernel
theorem dX3_allRiders_8 : decode cX3_allRiders 8 = .ok (.ireturn, 1) := by decide +kernel
theorem dX3_readFrom_0 : decode cX3_readFrom 0 = .ok (.aload_n 0, 1) := by decide +kernel
theorem dX3_readFrom_1 : decode cX3_readFrom 1 = .ok (.iconst 0, 1) := by decide +kernel
theorem dX3_readFrom_2 : decode cX3_readFrom 2 = .ok (.putfield 39, 3) := by decide +kernel
theorem dX3_readFrom_5 : decode cX3_readFrom 5 = .ok (.aload_n 0, 1) := by decide +kernel
theorem dX3_readFrom_6 : decode cX3_readFrom 6 = .ok (.iconst 0, 1) := by decide +kernel
theorem dX3_readFrom_7 : decode cX3_readFrom 7 = .ok (.putfield 43, 3) := by decide +kernel
theorem dX3_readFrom_10 : decode cX3_readFrom 10 = .ok (.iconst 1, 1) := by decide +kernel
theorem dX3_readFrom_11 : decode cX3_readFrom 11 = .ok (.istore_n 2, 1) := by decide +kernel
theorem dX3_readFrom_12 : decode cX3_readFrom 12 = .ok (.iconst 0, 1) := by decide +kernel
theorem dX3_readFrom_13 : decode cX3_readFrom 13 = .ok (.istore_n 3, 1) := by decide +kernel
theorem dX3_readFrom_14 : decode cX3_readFrom 14 = .ok (.iload_n 3, 1) := by decide +kernel
theorem dX3_readFrom_15 : decode cX3_readFrom 15 = .ok (.bipush 9, 2) := by decide +kernel
theorem dX3_readFrom_17 : decode cX3_readFrom 17 = .ok (.if_icmp .ge 48, 3) := by decide +kernel
theorem dX3_readFrom_20 : decode cX3_readFrom 20 = .ok (.iload_n 2, 1) := by decide +kernel
theorem dX3_readFrom_21 : decode cX3_readFrom 21 = .ok (.aload_n 1, 1) := by decide +kernel
theorem dX3_readFrom_22 : decode cX3_readFrom 22 = .ok (.getfield 46, 3) := by decide +kernel
theorem dX3_readFrom_25 : decode cX3_readFrom 25 = .ok (.if_icmp .ge 40, 3) := by decide +kernel
theorem dX3_readFrom_28 : decode cX3_readFrom 28 = .ok (.aload_n 1, 1) := by decide +kernel
theorem dX3_readFrom_29 : decode cX3_readFrom 29 = .ok (.iload_n 2, 1) := by decide +kernel
theorem dX3_readFrom_30 : decode cX3_readFrom 30 = .ok (.invokevirtual 51, 3) := by decide +kernel
theorem dX3_readFrom_33 : decode cX3_readFrom 33 = .ok (.ifCond .eq 12, 3) := by decide +kernel
theorem dX3_readFrom_36 : decode cX3_readFrom 36 = .ok (.aload_n 0, 1) := by decide +kernel
theorem dX3_readFrom_37 : decode cX3_readFrom 37 = .ok (.aload_n 1, 1) := by decide +kernel
theorem dX3_readFrom_38 : decode cX3_readFrom 38 = .ok (.iload_n 2, 1) := by decide +kernel
theorem dX3_readFrom_39 : decode cX3_readFrom 39 = .ok (.invokevirtual 55, 3) := by decide +kernel
theorem dX3_readFrom_42 : decode cX3_readFrom 42 = .ok (.goto 9, 3) := by decide +kernel
theorem dX3_readFrom_45 : decode cX3_readFrom 45 = .ok (.aload_n 0, 1) := by decide +kernel
theorem dX3_readFrom_46 : decode cX3_readFrom 46 = .ok (.aload_n 1, 1) := by decide +kernel
theorem dX3_readFrom_47 : decode cX3_readFrom 47 = .ok (.iload_n 2, 1) := by decide +kernel
theorem dX3_readFrom_48 : decode cX3_readFrom 48 = .ok (.invokevirtual 59, 3) := by decide +kernel
theorem dX3_readFrom_51 : decode cX3_readFrom 51 = .ok (.iload_n 2, 1) := by decide +kernel
theorem dX3_readFrom_52 : decode cX3_readFrom 52 = .ok (.aload_n 1, 1) := by decide +kernel
theorem dX3_readFrom_53 : decode cX3_readFrom 53 = .ok (.iload_n 2, 1) := by decide +kernel
theorem dX3_readFrom_54 : decode cX3_readFrom 54 = .ok (.invokevirtual 62, 3) := by decide +kernel
theorem dX3_readFrom_57 : decode cX3_readFrom 57 = .ok (.iadd, 1) := by decide +kernel
theorem dX3_readFrom_58 : decode cX3_readFrom 58 = .ok (.istore_n 2, 1) := by decide +kernel
theorem dX3_readFrom_59 : decode cX3_readFrom 59 = .ok (.iinc 3 1, 3) := by decide +kernel
theorem dX3_readFrom_62 : decode cX3_readFrom 62 = .ok (.goto (-48), 3) := by decide +kernel
theorem dX3_readFrom_65 : decode cX3_readFrom 65 = .ok (.iconst 0, 1) := by decide +kernel
theorem dX3_readFrom_66 : decode cX3_readFrom 66 = .ok (.istore_n 3, 1) := by decide +kernel
theorem dX3_readFrom_67 : decode cX3_readFrom 67 = .ok (.iload_n 3, 1) := by decide +kernel
theorem dX3_readFrom_68 : decode cX3_readFrom 68 = .ok (.aload_n 0, 1) := by decide +kernel
theorem dX3_readFrom_69 : decode cX3_readFrom 69 = .ok (.getfield 43, 3) := by decide +kernel
theorem dX3_readFrom_72 : decode cX3_readFrom 72 = .ok (.if_icmp .ge 14, 3) := by decide +kernel
theorem dX3_readFrom_75 : decode cX3_readFrom 75 = .ok (.aload_n 0, 1) := by decide +kernel
theorem dX3_readFrom_76 : decode cX3_readFrom 76 = .ok (.iload_n 3, 1) := by decide +kernel
theorem dX3_readFrom_77 : decode cX3_readFrom 77 = .ok (.invokevirtual 66, 3) := by decide +kernel
theorem dX3_readFrom_80 : decode cX3_readFrom 80 = .ok (.iinc 3 1, 3) := by decide +kernel
theorem dX3_readFrom_83 : decode cX3_readFrom 83 = .ok (.goto (-16), 3) := by decide +kernel
theorem dX3_readFrom_86 : decode cX3_readFrom 86 = .ok (.return_, 1) := by decide +kernel
theorem dX3_readHorse_0 : decode cX3_readHorse 0 = .ok (.aload_n 0, 1) := by decide +kernel
theorem dX3_readHorse_1 : decode cX3_readHorse 1 = .ok (.getfield 39, 3) := by decide +kernel
theorem dX3_readHorse_4 : decode cX3_readHorse 4 = .ok (.iconst 4, 1) := by decide +kernel
theorem dX3_readHorse_5 : decode cX3_readHorse 5 = .ok (.if_icmp .lt 4, 3) := by decide +kernel
theorem dX3_readHorse_8 : decode cX3_readHorse 8 = .ok (.return_, 1) := by decide +kernel
theorem dX3_readHorse_9 : decode cX3_readHorse 9 = .ok (.aload_n 0, 1) := by decide +kernel
theorem dX3_readHorse_10 : decode cX3_readHorse 10 = .ok (.getfield 9, 3) := by decide +kernel
theorem dX3_readHorse_13 : decode cX3_readHorse 13 = .ok (.aload_n 0, 1) := by decide +kernel
theorem dX3_readHorse_14 : decode cX3_readHorse 14 = .ok (.getfield 39, 3) := by decide +kernel
theorem dX3_readHorse_17 : decode cX3_readHorse 17 = .ok (.aload_n 1, 1) := by decide +kernel
theorem dX3_readHorse_18 : decode cX3_readHorse 18 = .ok (.iload_n 2, 1) := by decide +kernel
theorem dX3_readHorse_19 : decode cX3_readHorse 19 = .ok (.iconst 1, 1) := by decide +kernel
theorem dX3_readHorse_20 : decode cX3_readHorse 20 = .ok (.iadd, 1) := by decide +kernel
theorem dX3_readHorse_21 : decode cX3_readHorse 21 = .ok (.invokevirtual 70, 3) := by decide +kernel
theorem dX3_readHorse_24 : decode cX3_readHorse 24 = .ok (.invokestatic 73, 3) := by decide +kernel
theorem dX3_readHorse_27 : decode cX3_readHorse 27 = .ok (.iconst 0, 1) := by decide +kernel
theorem dX3_readHorse_28 : decode cX3_readHorse 28 = .ok (.istore_n 3, 1) := by decide +kernel
theorem dX3_readHorse_29 : decode cX3_readHorse 29 = .ok (.iload_n 3, 1) := by decide +kernel
theorem dX3_readHorse_30 : decode cX3_readHorse 30 = .ok (.iconst 3, 1) := by decide +kernel
theorem dX3_readHorse_31 : decode cX3_readHorse 31 = .ok (.if_icmp .ge 33, 3) := by decide +kernel
theorem dX3_readHorse_34 : decode cX3_readHorse 34 = .ok (.aload_n 0, 1) := by decide +kernel
theorem dX3_readHorse_35 : decode cX3_readHorse 35 = .ok (.getfield 15, 3) := by decide +kernel
theorem dX3_readHorse_38 : decode cX3_readHorse 38 = .ok (.iconst 3, 1) := by decide +kernel
theorem dX3_readHorse_39 : decode cX3_readHorse 39 = .ok (.aload_n 0, 1) := by decide +kernel
theorem dX3_readHorse_40 : decode cX3_readHorse 40 = .ok (.getfield 39, 3) := by decide +kernel
theorem dX3_readHorse_43 : decode cX3_readHorse 43 = .ok (.imul, 1) := by decide +kernel
theorem dX3_readHorse_44 : decode cX3_readHorse 44 = .ok (.iload_n 3, 1) := by decide +kernel
theorem dX3_readHorse_45 : decode cX3_readHorse 45 = .ok (.iadd, 1) := by decide +kernel
theorem dX3_readHorse_46 : decode cX3_readHorse 46 = .ok (.aload_n 1, 1) := by decide +kernel
theorem dX3_readHorse_47 : decode cX3_readHorse 47 = .ok (.iload_n 2, 1) := by decide +kernel
theorem dX3_readHorse_48 : decode cX3_readHorse 48 = .ok (.iconst 2, 1) := by decide +kernel
theorem dX3_readHorse_49 : decode cX3_readHorse 49 = .ok (.iadd, 1) := by decide +kernel
theorem dX3_readHorse_50 : decode cX3_readHorse 50 = .ok (.iload_n 3, 1) := by decide +kernel
theorem dX3_readHorse_51 : decode cX3_readHorse 51 = .ok (.iadd, 1) := by decide +kernel
theorem dX3_readHorse_52 : decode cX3_readHorse 52 = .ok (.invokevirtual 70, 3) := by decide +kernel
theorem dX3_readHorse_55 : decode cX3_readHorse 55 = .ok (.invokestatic 73, 3) := by decide +kernel
theorem dX3_readHorse_58 : decode cX3_readHorse 58 = .ok (.iinc 3 1, 3) := by decide +kernel
theorem dX3_readHorse_61 : decode cX3_readHorse 61 = .ok (.goto (-32), 3) := by decide +kernel
theorem dX3_readHorse_64 : decode cX3_readHorse 64 = .ok (.aload_n 0, 1) := by decide +kernel
theorem dX3_readHorse_65 : decode cX3_readHorse 65 = .ok (.getfield 18, 3) := by decide +kernel
theorem dX3_readHorse_68 : decode cX3_readHorse 68 = .ok (.aload_n 0, 1) := by decide +kernel
theorem dX3_readHorse_69 : decode cX3_readHorse 69 = .ok (.getfield 39, 3) := by decide +kernel
theorem dX3_readHorse_72 : decode cX3_readHorse 72 = .ok (.aload_n 1, 1) := by decide +kernel
theorem dX3_readHorse_73 : decode cX3_readHorse 73 = .ok (.iload_n 2, 1) := by decide +kernel
theorem dX3_readHorse_74 : decode cX3_readHorse 74 = .ok (.iconst 5, 1) := by decide +kernel
theorem dX3_readHorse_75 : decode cX3_readHorse 75 = .ok (.iadd, 1) := by decide +kernel
theorem dX3_readHorse_76 : decode cX3_readHorse 76 = .ok (.invokevirtual 70, 3) := by decide +kernel
theorem dX3_readHorse_79 : decode cX3_readHorse 79 = .ok (.invokestatic 73, 3) := by decide +kernel
theorem dX3_readHorse_82 : decode cX3_readHorse 82 = .ok (.aload_n 0, 1) := by decide +kernel
theorem dX3_readHorse_83 : decode cX3_readHorse 83 = .ok (.getfield 21, 3) := by decide +kernel
theorem dX3_readHorse_86 : decode cX3_readHorse 86 = .ok (.aload_n 0, 1) := by decide +kernel
theorem dX3_readHorse_87 : decode cX3_readHorse 87 = .ok (.getfield 39, 3) := by decide +kernel
theorem dX3_readHorse_90 : decode cX3_readHorse 90 = .ok (.aload_n 1, 1) := by decide +kernel
theorem dX3_readHorse_91 : decode cX3_readHorse 91 = .ok (.iload_n 2, 1) := by decide +kernel
theorem dX3_readHorse_92 : decode cX3_readHorse 92 = .ok (.bipush 6, 2) := by decide +kernel
theorem dX3_readHorse_94 : decode cX3_readHorse 94 = .ok (.iadd, 1) := by decide +kernel
theorem dX3_readHorse_95 : decode cX3_readHorse 95 = .ok (.invokevirtual 70, 3) := by decide +kernel
theorem dX3_readHorse_98 : decode cX3_readHorse 98 = .ok (.invokestatic 73, 3) := by decide +kernel
theorem dX3_readHorse_101 : decode cX3_readHorse 101 = .ok (.aload_n 0, 1) := by decide +kernel
theorem dX3_readHorse_102 : decode cX3_readHorse 102 = .ok (.getfield 24, 3) := by decide +kernel
theorem dX3_readHorse_105 : decode cX3_readHorse 105 = .ok (.aload_n 0, 1) := by decide +kernel
theorem dX3_readHorse_106 : decode cX3_readHorse 106 = .ok (.getfield 39, 3) := by decide +kernel
theorem dX3_readHorse_109 : decode cX3_readHorse 109 = .ok (.bipush 10, 2) := by decide +kernel
theorem dX3_readHorse_111 : decode cX3_readHorse 111 = .ok (.aload_n 1, 1) := by decide +kernel
theorem dX3_readHorse_112 : decode cX3_readHorse 112 = .ok (.iload_n 2, 1) := by decide +kernel
theorem dX3_readHorse_113 : decode cX3_readHorse 113 = .ok (.bipush 7, 2) := by decide +kernel
theorem dX3_readHorse_115 : decode cX3_readHorse 115 = .ok (.iadd, 1) := by decide +kernel
theorem dX3_readHorse_116 : decode cX3_readHorse 116 = .ok (.invokevirtual 70, 3) := by decide +kernel
theorem dX3_readHorse_119 : decode cX3_readHorse 119 = .ok (.imul, 1) := by decide +kernel
theorem dX3_readHorse_120 : decode cX3_readHorse 120 = .ok (.aload_n 1, 1) := by decide +kernel
theorem dX3_readHorse_121 : decode cX3_readHorse 121 = .ok (.iload_n 2, 1) := by decide +kernel
theorem dX3_readHorse_122 : decode cX3_readHorse 122 = .ok (.bipush 8, 2) := by decide +kernel
theorem dX3_readHorse_124 : decode cX3_readHorse 124 = .ok (.iadd, 1) := by decide +kernel
theorem dX3_readHorse_125 : decode cX3_readHorse 125 = .ok (.invokevirtual 70, 3) := by decide +kernel
theorem dX3_readHorse_128 : decode cX3_readHorse 128 = .ok (.iadd, 1) := by decide +kernel
theorem dX3_readHorse_129 : decode cX3_readHorse 129 = .ok (.invokestatic 73, 3) := by decide +kernel
theorem dX3_readHorse_132 : decode cX3_readHorse 132 = .ok (.aload_n 0, 1) := by decide +kernel
theorem dX3_readHorse_133 : decode cX3_readHorse 133 = .ok (.dup, 1) := by decide +kernel
theorem dX3_readHorse_134 : decode cX3_readHorse 134 = .ok (.getfield 39, 3) := by decide +kernel
theorem dX3_readHorse_137 : decode cX3_readHorse 137 = .ok (.iconst 1, 1) := by decide +kernel
theorem dX3_readHorse_138 : decode cX3_readHorse 138 = .ok (.iadd, 1) := by decide +kernel
theorem dX3_readHorse_139 : decode cX3_readHorse 139 = .ok (.putfield 39, 3) := by decide +kernel
theorem dX3_readHorse_142 : decode cX3_readHorse 142 = .ok (.return_, 1) := by decide +kernel
theorem dX3_readRider_0 : decode cX3_readRider 0 = .ok (.aload_n 0, 1) := by decide +kernel
theorem dX3_readRider_1 : decode cX3_readRider 1 = .ok (.getfield 43, 3) := by decide +kernel
theorem dX3_readRider_4 : decode cX3_readRider 4 = .ok (.iconst 5, 1) := by decide +kernel
theorem dX3_readRider_5 : decode cX3_readRider 5 = .ok (.if_icmp .lt 4, 3) := by decide +kernel
theorem dX3_readRider_8 : decode cX3_readRider 8 = .ok (.return_, 1) := by decide +kernel
theorem dX3_readRider_9 : decode cX3_readRider 9 = .ok (.iconst 0, 1) := by decide +kernel
theorem dX3_readRider_10 : decode cX3_readRider 10 = .ok (.istore_n 3, 1) := by decide +kernel
theorem dX3_readRider_11 : decode cX3_readRider 11 = .ok (.iload_n 3, 1) := by decide +kernel
theorem dX3_readRider_12 : decode cX3_readRider 12 = .ok (.iconst 3, 1) := by decide +kernel
theorem dX3_readRider_13 : decode cX3_readRider 13 = .ok (.if_icmp .ge 33, 3) := by decide +kernel
theorem dX3_readRider_16 : decode cX3_readRider 16 = .ok (.aload_n 0, 1) := by decide +kernel
theorem dX3_readRider_17 : decode cX3_readRider 17 = .ok (.getfield 27, 3) := by decide +kernel
theorem dX3_readRider_20 : decode cX3_readRider 20 = .ok (.iconst 3, 1) := by decide +kernel
theorem dX3_readRider_21 : decode cX3_readRider 21 = .ok (.aload_n 0, 1) := by decide +kernel
theorem dX3_readRider_22 : decode cX3_readRider 22 = .ok (.getfield 43, 3) := by decide +kernel
theorem dX3_readRider_25 : decode cX3_readRider 25 = .ok (.imul, 1) := by decide +kernel
theorem dX3_readRider_26 : decode cX3_readRider 26 = .ok (.iload_n 3, 1) := by decide +kernel
theorem dX3_readRider_27 : decode cX3_readRider 27 = .ok (.iadd, 1) := by decide +kernel
theorem dX3_readRider_28 : decode cX3_readRider 28 = .ok (.aload_n 1, 1) := by decide +kernel
theorem dX3_readRider_29 : decode cX3_readRider 29 = .ok (.iload_n 2, 1) := by decide +kernel
theorem dX3_readRider_30 : decode cX3_readRider 30 = .ok (.iconst 1, 1) := by decide +kernel
theorem dX3_readRider_31 : decode cX3_readRider 31 = .ok (.iadd, 1) := by decide +kernel
theorem dX3_readRider_32 : decode cX3_readRider 32 = .ok (.iload_n 3, 1) := by decide +kernel
theorem dX3_readRider_33 : decode cX3_readRider 33 = .ok (.iadd, 1) := by decide +kernel
theorem dX3_readRider_34 : decode cX3_readRider 34 = .ok (.invokevirtual 70, 3) := by decide +kernel
theorem dX3_readRider_37 : decode cX3_readRider 37 = .ok (.invokestatic 73, 3) := by decide +kernel
theorem dX3_readRider_40 : decode cX3_readRider 40 = .ok (.iinc 3 1, 3) := by decide +kernel
theorem dX3_readRider_43 : decode cX3_readRider 43 = .ok (.goto (-32), 3) := by decide +kernel
theorem dX3_readRider_46 : decode cX3_readRider 46 = .ok (.aload_n 0, 1) := by decide +kernel
theorem dX3_readRider_47 : decode cX3_readRider 47 = .ok (.getfield 30, 3) := by decide +kernel
theorem dX3_readRider_50 : decode cX3_readRider 50 = .ok (.aload_n 0, 1) := by decide +kernel
theorem dX3_readRider_51 : decode cX3_readRider 51 = .ok (.getfield 43, 3) := by decide +kernel
theorem dX3_readRider_54 : decode cX3_readRider 54 = .ok (.aload_n 1, 1) := by decide +kernel
theorem dX3_readRider_55 : decode cX3_readRider 55 = .ok (.iload_n 2, 1) := by decide +kernel
theorem dX3_readRider_56 : decode cX3_readRider 56 = .ok (.iconst 4, 1) := by decide +kernel
theorem dX3_readRider_57 : decode cX3_readRider 57 = .ok (.iadd, 1) := by decide +kernel
theorem dX3_readRider_58 : decode cX3_readRider 58 = .ok (.invokevirtual 70, 3) := by decide +kernel
theorem dX3_readRider_61 : decode cX3_readRider 61 = .ok (.invokestatic 73, 3) := by decide +kernel
theorem dX3_readRider_64 : decode cX3_readRider 64 = .ok (.aload_n 0, 1) := by decide +kernel
theorem dX3_readRider_65 : decode cX3_readRider 65 = .ok (.dup, 1) := by decide +kernel
theorem dX3_readRider_66 : decode cX3_readRider 66 = .ok (.getfield 43, 3) := by decide +kernel
theorem dX3_readRider_69 : decode cX3_readRider 69 = .ok (.iconst 1, 1) := by decide +kernel
theorem dX3_readRider_70 : decode cX3_readRider 70 = .ok (.iadd, 1) := by decide +kernel
theorem dX3_readRider_71 : decode cX3_readRider 71 = .ok (.putfield 43, 3) := by decide +kernel
theorem dX3_readRider_74 : decode cX3_readRider 74 = .ok (.return_, 1) := by decide +kernel
theorem dX3_rankHorses_0 : decode cX3_rankHorses 0 = .ok (.iconst 0, 1) := by decide +kernel
theorem dX3_rankHorses_1 : decode cX3_rankHorses 1 = .ok (.istore_n 2, 1) := by decide +kernel
theorem dX3_rankHorses_2 : decode cX3_rankHorses 2 = .ok (.iload_n 2, 1) := by decide +kernel
theorem dX3_rankHorses_3 : decode cX3_rankHorses 3 = .ok (.aload_n 0, 1) := by decide +kernel
theorem dX3_rankHorses_4 : decode cX3_rankHorses 4 = .ok (.getfield 39, 3) := by decide +kernel
theorem dX3_rankHorses_7 : decode cX3_rankHorses 7 = .ok (.if_icmp .ge 90, 3) := by decide +kernel
theorem dX3_rankHorses_10 : decode cX3_rankHorses 10 = .ok (.iconst 0, 1) := by decide +kernel
theorem dX3_rankHorses_11 : decode cX3_rankHorses 11 = .ok (.istore_n 3, 1) := by decide +kernel
theorem dX3_rankHorses_12 : decode cX3_rankHorses 12 = .ok (.iconst 0, 1) := by decide +kernel
theorem dX3_rankHorses_13 : decode cX3_rankHorses 13 = .ok (.istore 4, 2) := by decide +kernel
theorem dX3_rankHorses_15 : decode cX3_rankHorses 15 = .ok (.iload 4, 2) := by decide +kernel
theorem dX3_rankHorses_17 : decode cX3_rankHorses 17 = .ok (.aload_n 0, 1) := by decide +kernel
theorem dX3_rankHorses_18 : decode cX3_rankHorses 18 = .ok (.getfield 39, 3) := by decide +kernel
theorem dX3_rankHorses_21 : decode cX3_rankHorses 21 = .ok (.if_icmp .ge 44, 3) := by decide +kernel
theorem dX3_rankHorses_24 : decode cX3_rankHorses 24 = .ok (.aload_n 0, 1) := by decide +kernel
theorem dX3_rankHorses_25 : decode cX3_rankHorses 25 = .ok (.iload_n 1, 1) := by decide +kernel
theorem dX3_rankHorses_26 : decode cX3_rankHorses 26 = .ok (.iload 4, 2) := by decide +kernel
theorem dX3_rankHorses_28 : decode cX3_rankHorses 28 = .ok (.invokevirtual 77, 3) := by decide +kernel
theorem dX3_rankHorses_31 : decode cX3_rankHorses 31 = .ok (.aload_n 0, 1) := by decide +kernel
theorem dX3_rankHorses_32 : decode cX3_rankHorses 32 = .ok (.iload_n 1, 1) := by decide +kernel
theorem dX3_rankHorses_33 : decode cX3_rankHorses 33 = .ok (.iload_n 2, 1) := by decide +kernel
theorem dX3_rankHorses_34 : decode cX3_rankHorses 34 = .ok (.invokevirtual 77, 3) := by decide +kernel
theorem dX3_rankHorses_37 : decode cX3_rankHorses 37 = .ok (.isub, 1) := by decide +kernel
theorem dX3_rankHorses_38 : decode cX3_rankHorses 38 = .ok (.istore 5, 2) := by decide +kernel
theorem dX3_rankHorses_40 : decode cX3_rankHorses 40 = .ok (.iload 5, 2) := by decide +kernel
theorem dX3_rankHorses_42 : decode cX3_rankHorses 42 = .ok (.ifCond .gt 14, 3) := by decide +kernel
theorem dX3_rankHorses_45 : decode cX3_rankHorses 45 = .ok (.iload 5, 2) := by decide +kernel
theorem dX3_rankHorses_47 : decode cX3_rankHorses 47 = .ok (.ifCond .ne 12, 3) := by decide +kernel
theorem dX3_rankHorses_50 : decode cX3_rankHorses 50 = .ok (.iload 4, 2) := by decide +kernel
theorem dX3_rankHorses_52 : decode cX3_rankHorses 52 = .ok (.iload_n 2, 1) := by decide +kernel
theorem dX3_rankHorses_53 : decode cX3_rankHorses 53 = .ok (.if_icmp .ge 6, 3) := by decide +kernel
theorem dX3_rankHorses_56 : decode cX3_rankHorses 56 = .ok (.iinc 3 1, 3) := by decide +kernel
theorem dX3_rankHorses_59 : decode cX3_rankHorses 59 = .ok (.iinc 4 1, 3) := by decide +kernel
theorem dX3_rankHorses_62 : decode cX3_rankHorses 62 = .ok (.goto (-47), 3) := by decide +kernel
theorem dX3_rankHorses_65 : decode cX3_rankHorses 65 = .ok (.aload_n 0, 1) := by decide +kernel
theorem dX3_rankHorses_66 : decode cX3_rankHorses 66 = .ok (.getfield 33, 3) := by decide +kernel
theorem dX3_rankHorses_69 : decode cX3_rankHorses 69 = .ok (.iconst 4, 1) := by decide +kernel
theorem dX3_rankHorses_70 : decode cX3_rankHorses 70 = .ok (.iload_n 1, 1) := by decide +kernel
theorem dX3_rankHorses_71 : decode cX3_rankHorses 71 = .ok (.imul, 1) := by decide +kernel
theorem dX3_rankHorses_72 : decode cX3_rankHorses 72 = .ok (.iload_n 2, 1) := by decide +kernel
theorem dX3_rankHorses_73 : decode cX3_rankHorses 73 = .ok (.iadd, 1) := by decide +kernel
theorem dX3_rankHorses_74 : decode cX3_rankHorses 74 = .ok (.iload_n 3, 1) := by decide +kernel
theorem dX3_rankHorses_75 : decode cX3_rankHorses 75 = .ok (.invokestatic 73, 3) := by decide +kernel
theorem dX3_rankHorses_78 : decode cX3_rankHorses 78 = .ok (.aload_n 0, 1) := by decide +kernel
theorem dX3_rankHorses_79 : decode cX3_rankHorses 79 = .ok (.getfield 36, 3) := by decide +kernel
theorem dX3_rankHorses_82 : decode cX3_rankHorses 82 = .ok (.iconst 4, 1) := by decide +kernel
theorem dX3_rankHorses_83 : decode cX3_rankHorses 83 = .ok (.iload_n 1, 1) := by decide +kernel
theorem dX3_rankHorses_84 : decode cX3_rankHorses 84 = .ok (.imul, 1) := by decide +kernel
theorem dX3_rankHorses_85 : decode cX3_rankHorses 85 = .ok (.iload_n 3, 1) := by decide +kernel
theorem dX3_rankHorses_86 : decode cX3_rankHorses 86 = .ok (.iadd, 1) := by decide +kernel
theorem dX3_rankHorses_87 : decode cX3_rankHorses 87 = .ok (.iload_n 2, 1) := by decide +kernel
theorem dX3_rankHorses_88 : decode cX3_rankHorses 88 = .ok (.invokestatic 73, 3) := by decide +kernel
theorem dX3_rankHorses_91 : decode cX3_rankHorses 91 = .ok (.iinc 2 1, 3) := by decide +kernel
theorem dX3_rankHorses_94 : decode cX3_rankHorses 94 = .ok (.goto (-92), 3) := by decide +kernel
theorem dX3_rankHorses_97 : decode cX3_rankHorses 97 = .ok (.return_, 1) := by decide +kernel
theorem dX3_appeal_0 : decode cX3_appeal 0 = .ok (.aload_n 0, 1) := by decide +kernel
theorem dX3_appeal_1 : decode cX3_appeal 1 = .ok (.getfield 30, 3) := by decide +kernel
theorem dX3_appeal_4 : decode cX3_appeal 4 = .ok (.iload_n 1, 1) := by decide +kernel
theorem dX3_appeal_5 : decode cX3_appeal 5 = .ok (.invokestatic 81, 3) := by decide +kernel
theorem dX3_appeal_8 : decode cX3_appeal 8 = .ok (.tableswitch 56 0 2 #[28, 37, 47], 28) := by decide +kernel
theorem dX3_appeal_36 : decode cX3_appeal 36 = .ok (.aload_n 0, 1) := by decide +kernel
theorem dX3_appeal_37 : decode cX3_appeal 37 = .ok (.getfield 18, 3) := by decide +kernel
theorem dX3_appeal_40 : decode cX3_appeal 40 = .ok (.iload_n 2, 1) := by decide +kernel
theorem dX3_appeal_41 : decode cX3_appeal 41 = .ok (.invokestatic 81, 3) := by decide +kernel
theorem dX3_appeal_44 : decode cX3_appeal 44 = .ok (.ireturn, 1) := by decide +kernel
theorem dX3_appeal_45 : decode cX3_appeal 45 = .ok (.aload_n 0, 1) := by decide +kernel
theorem dX3_appeal_46 : decode cX3_appeal 46 = .ok (.getfield 21, 3) := by decide +kernel
theorem dX3_appeal_49 : decode cX3_appeal 49 = .ok (.iload_n 2, 1) := by decide +kernel
theorem dX3_appeal_50 : decode cX3_appeal 50 = .ok (.invokestatic 81, 3) := by decide +kernel
theorem dX3_appeal_53 : decode cX3_appeal 53 = .ok (.ineg, 1) := by decide +kernel
theorem dX3_appeal_54 : decode cX3_appeal 54 = .ok (.ireturn, 1) := by decide +kernel
theorem dX3_appeal_55 : decode cX3_appeal 55 = .ok (.aload_n 0, 1) := by decide +kernel
theorem dX3_appeal_56 : decode cX3_appeal 56 = .ok (.getfield 21, 3) := by decide +kernel
theorem dX3_appeal_59 : decode cX3_appeal 59 = .ok (.iload_n 2, 1) := by decide +kernel
theorem dX3_appeal_60 : decode cX3_appeal 60 = .ok (.invokestatic 81, 3) := by decide +kernel
theorem dX3_appeal_63 : decode cX3_appeal 63 = .ok (.ireturn, 1) := by decide +kernel
theorem dX3_appeal_64 : decode cX3_appeal 64 = .ok (.aload_n 0, 1) := by decide +kernel
theorem dX3_appeal_65 : decode cX3_appeal 65 = .ok (.getfield 18, 3) := by decide +kernel
theorem dX3_appeal_68 : decode cX3_appeal 68 = .ok (.iload_n 2, 1) := by decide +kernel
theorem dX3_appeal_69 : decode cX3_appeal 69 = .ok (.invokestatic 81, 3) := by decide +kernel
theorem dX3_appeal_72 : decode cX3_appeal 72 = .ok (.ineg, 1) := by decide +kernel
theorem dX3_appeal_73 : decode cX3_appeal 73 = .ok (.ireturn, 1) := by decide +kernel
theorem dX3_likedAs_0 : decode cX3_likedAs 0 = .ok (.iload_n 2, 1) := by decide +kernel
theorem dX3_likedAs_1 : decode cX3_likedAs 1 = .ok (.ifCond .lt 26, 3) := by decide +kernel
theorem dX3_likedAs_4 : decode cX3_likedAs 4 = .ok (.iload_n 2, 1) := by decide +kernel
theorem dX3_likedAs_5 : decode cX3_likedAs 5 = .ok (.aload_n 0, 1) := by decide +kernel
theorem dX3_likedAs_6 : decode cX3_likedAs 6 = .ok (.getfield 39, 3) := by decide +kernel
theorem dX3_likedAs_9 : decode cX3_likedAs 9 = .ok (.if_icmp .ge 18, 3) := by decide +kernel
theorem dX3_likedAs_12 : decode cX3_likedAs 12 = .ok (.aload_n 0, 1) := by decide +kernel
theorem dX3_likedAs_13 : decode cX3_likedAs 13 = .ok (.getfield 36, 3) := by decide +kernel
theorem dX3_likedAs_16 : decode cX3_likedAs 16 = .ok (.iconst 4, 1) := by decide +kernel
theorem dX3_likedAs_17 : decode cX3_likedAs 17 = .ok (.iload_n 1, 1) := by decide +kernel
theorem dX3_likedAs_18 : decode cX3_likedAs 18 = .ok (.imul, 1) := by decide +kernel
theorem dX3_likedAs_19 : decode cX3_likedAs 19 = .ok (.iload_n 2, 1) := by decide +kernel
theorem dX3_likedAs_20 : decode cX3_likedAs 20 = .ok (.iadd, 1) := by decide +kernel
theorem dX3_likedAs_21 : decode cX3_likedAs 21 = .ok (.invokestatic 81, 3) := by decide +kernel
theorem dX3_likedAs_24 : decode cX3_likedAs 24 = .ok (.goto 5, 3) := by decide +kernel
theorem dX3_likedAs_27 : decode cX3_likedAs 27 = .ok (.bipush (-9), 2) := by decide +kernel
theorem dX3_likedAs_29 : decode cX3_likedAs 29 = .ok (.ireturn, 1) := by decide +kernel
theorem dX3_riderLikes_0 : decode cX3_riderLikes 0 = .ok (.iload_n 3, 1) := by decide +kernel
theorem dX3_riderLikes_1 : decode cX3_riderLikes 1 = .ok (.bipush (-9), 2) := by decide +kernel
theorem dX3_riderLikes_3 : decode cX3_riderLikes 3 = .ok (.if_icmp .eq 30, 3) := by decide +kernel
theorem dX3_riderLikes_6 : decode cX3_riderLikes 6 = .ok (.aload_n 0, 1) := by decide +kernel
theorem dX3_riderLikes_7 : decode cX3_riderLikes 7 = .ok (.getfield 33, 3) := by decide +kernel
theorem dX3_riderLikes_10 : decode cX3_riderLikes 10 = .ok (.iconst 4, 1) := by decide +kernel
theorem dX3_riderLikes_11 : decode cX3_riderLikes 11 = .ok (.iload_n 1, 1) := by decide +kernel
theorem dX3_riderLikes_12 : decode cX3_riderLikes 12 = .ok (.imul, 1) := by decide +kernel
theorem dX3_riderLikes_13 : decode cX3_riderLikes 13 = .ok (.iload_n 2, 1) := by decide +kernel
theorem dX3_riderLikes_14 : decode cX3_riderLikes 14 = .ok (.iadd, 1) := by decide +kernel
theorem dX3_riderLikes_15 : decode cX3_riderLikes 15 = .ok (.invokestatic 81, 3) := by decide +kernel
theorem dX3_riderLikes_18 : decode cX3_riderLikes 18 = .ok (.aload_n 0, 1) := by decide +kernel
theorem dX3_riderLikes_19 : decode cX3_riderLikes 19 = .ok (.getfield 33, 3) := by decide +kernel
theorem dX3_riderLikes_22 : decode cX3_riderLikes 22 = .ok (.iconst 4, 1) := by decide +kernel
theorem dX3_riderLikes_23 : decode cX3_riderLikes 23 = .ok (.iload_n 1, 1) := by decide +kernel
theorem dX3_riderLikes_24 : decode cX3_riderLikes 24 = .ok (.imul, 1) := by decide +kernel
theorem dX3_riderLikes_25 : decode cX3_riderLikes 25 = .ok (.iload_n 3, 1) := by decide +kernel
theorem dX3_riderLikes_26 : decode cX3_riderLikes 26 = .ok (.iadd, 1) := by decide +kernel
theorem dX3_riderLikes_27 : decode cX3_riderLikes 27 = .ok (.invokestatic 81, 3) := by decide +kernel
theorem dX3_riderLikes_30 : decode cX3_riderLikes 30 = .ok (.if_icmp .ge 7, 3) := by decide +kernel
theorem dX3_riderLikes_33 : decode cX3_riderLikes 33 = .ok (.iconst 1, 1) := by decide +kernel
theorem dX3_riderLikes_34 : decode cX3_riderLikes 34 = .ok (.goto 4, 3) := by decide +kernel
theorem dX3_riderLikes_37 : decode cX3_riderLikes 37 = .ok (.iconst 0, 1) := by decide +kernel
theorem dX3_riderLikes_38 : decode cX3_riderLikes 38 = .ok (.ireturn, 1) := by decide +kernel
theorem dX3_worthByTruth_0 : decode cX3_worthByTruth 0 = .ok (.iconst 3, 1) := by decide +kernel
theorem dX3_worthByTruth_1 : decode cX3_worthByTruth 1 = .ok (.iload_n 1, 1) := by decide +kernel
theorem dX3_worthByTruth_2 : decode cX3_worthByTruth 2 = .ok (.imul, 1) := by decide +kernel
theorem dX3_worthByTruth_3 : decode cX3_worthByTruth 3 = .ok (.istore 5, 2) := by decide +kernel
theorem dX3_worthByTruth_5 : decode cX3_worthByTruth 5 = .ok (.iload_n 2, 1) := by decide +kernel
theorem dX3_worthByTruth_6 : decode cX3_worthByTruth 6 = .ok (.aload_n 0, 1) := by decide +kernel
theorem dX3_worthByTruth_7 : decode cX3_worthByTruth 7 = .ok (.getfield 27, 3) := by decide +kernel
theorem dX3_worthByTruth_10 : decode cX3_worthByTruth 10 = .ok (.iload 5, 2) := by decide +kernel
theorem dX3_worthByTruth_12 : decode cX3_worthByTruth 12 = .ok (.invokestatic 81, 3) := by decide +kernel
theorem dX3_worthByTruth_15 : decode cX3_worthByTruth 15 = .ok (.imul, 1) := by decide +kernel
theorem dX3_worthByTruth_16 : decode cX3_worthByTruth 16 = .ok (.iload_n 3, 1) := by decide +kernel
theorem dX3_worthByTruth_17 : decode cX3_worthByTruth 17 = .ok (.aload_n 0, 1) := by decide +kernel
theorem dX3_worthByTruth_18 : decode cX3_worthByTruth 18 = .ok (.getfield 27, 3) := by decide +kernel
theorem dX3_worthByTruth_21 : decode cX3_worthByTruth 21 = .ok (.iload 5, 2) := by decide +kernel
theorem dX3_worthByTruth_23 : decode cX3_worthByTruth 23 = .ok (.iconst 1, 1) := by decide +kernel
theorem dX3_worthByTruth_24 : decode cX3_worthByTruth 24 = .ok (.iadd, 1) := by decide +kernel
theorem dX3_worthByTruth_25 : decode cX3_worthByTruth 25 = .ok (.invokestatic 81, 3) := by decide +kernel
theorem dX3_worthByTruth_28 : decode cX3_worthByTruth 28 = .ok (.imul, 1) := by decide +kernel
theorem dX3_worthByTruth_29 : decode cX3_worthByTruth 29 = .ok (.iadd, 1) := by decide +kernel
theorem dX3_worthByTruth_30 : decode cX3_worthByTruth 30 = .ok (.iload 4, 2) := by decide +kernel
theorem dX3_worthByTruth_32 : decode cX3_worthByTruth 32 = .ok (.aload_n 0, 1) := by decide +kernel
theorem dX3_worthByTruth_33 : decode cX3_worthByTruth 33 = .ok (.getfield 27, 3) := by decide +kernel
theorem dX3_worthByTruth_36 : decode cX3_worthByTruth 36 = .ok (.iload 5, 2) := by decide +kernel
theorem dX3_worthByTruth_38 : decode cX3_worthByTruth 38 = .ok (.iconst 2, 1) := by decide +kernel
theorem dX3_worthByTruth_39 : decode cX3_worthByTruth 39 = .ok (.iadd, 1) := by decide +kernel
theorem dX3_worthByTruth_40 : decode cX3_worthByTruth 40 = .ok (.invokestatic 81, 3) := by decide +kernel
theorem dX3_worthByTruth_43 : decode cX3_worthByTruth 43 = .ok (.imul, 1) := by decide +kernel
theorem dX3_worthByTruth_44 : decode cX3_worthByTruth 44 = .ok (.iadd, 1) := by decide +kernel
theorem dX3_worthByTruth_45 : decode cX3_worthByTruth 45 = .ok (.ireturn, 1) := by decide +kernel
theorem dX4_init_0 : decode cX4_init 0 = .ok (.aload_n 0, 1) := by decide +kernel
theorem dX4_init_1 : decode cX4_init 1 = .ok (.invokespecial 3, 3) := by decide +kernel
theorem dX4_init_4 : decode cX4_init 4 = .ok (.aload_n 0, 1) := by decide +kernel
theorem dX4_init_5 : decode cX4_init 5 = .ok (.new 9, 3) := by decide +kernel
theorem dX4_init_8 : decode cX4_init 8 = .ok (.dup, 1) := by decide +kernel
theorem dX4_init_9 : decode cX4_init 9 = .ok (.invokespecial 11, 3) := by decide +kernel
theorem dX4_init_12 : decode cX4_init 12 = .ok (.putfield 12, 3) := by decide +kernel
theorem dX4_init_15 : decode cX4_init 15 = .ok (.aload_n 0, 1) := by decide +kernel
theorem dX4_init_16 : decode cX4_init 16 = .ok (.iconst 5, 1) := by decide +kernel
theorem dX4_init_17 : decode cX4_init 17 = .ok (.newarray .int, 2) := by decide +kernel
theorem dX4_init_19 : decode cX4_init 19 = .ok (.putfield 18, 3) := by decide +kernel
theorem dX4_init_22 : decode cX4_init 22 = .ok (.aload_n 0, 1) := by decide +kernel
theorem dX4_init_23 : decode cX4_init 23 = .ok (.iconst 4, 1) := by decide +kernel
theorem dX4_init_24 : decode cX4_init 24 = .ok (.newarray .int, 2) := by decide +kernel
theorem dX4_init_26 : decode cX4_init 26 = .ok (.putfield 22, 3) := by decide +kernel
theorem dX4_init_29 : decode cX4_init 29 = .ok (.aload_n 0, 1) := by decide +kernel
theorem dX4_init_30 : decode cX4_init 30 = .ok (.aload_n 1, 1) := by decide +kernel
theorem dX4_init_31 : decode cX4_init 31 = .ok (.putfield 25, 3) := by decide +kernel
theorem dX4_init_34 : decode cX4_init 34 = .ok (.aload_n 0, 1) := by decide +kernel
theorem dX4_init_35 : decode cX4_init 35 = .ok (.aload_n 2, 1) := by decide +kernel
theorem dX4_init_36 : decode cX4_init 36 = .ok (.putfield 29, 3) := by decide +kernel
theorem dX4_init_39 : decode cX4_init 39 = .ok (.return_, 1) := by decide +kernel
theorem dX4_holdByRiders_0 : decode cX4_holdByRiders 0 = .ok (.aload_n 0, 1) := by decide +kernel
theorem dX4_holdByRiders_1 : decode cX4_holdByRiders 1 = .ok (.getfield 12, 3) := by decide +kernel
theorem dX4_holdByRiders_4 : decode cX4_holdByRiders 4 = .ok (.invokevirtual 33, 3) := by decide +kernel
theorem dX4_holdByRiders_7 : decode cX4_holdByRiders 7 = .ok (.aload_n 0, 1) := by decide +kernel
theorem dX4_holdByRiders_8 : decode cX4_holdByRiders 8 = .ok (.getfield 18, 3) := by decide +kernel
theorem dX4_holdByRiders_11 : decode cX4_holdByRiders 11 = .ok (.iconst 0, 1) := by decide +kernel
theorem dX4_holdByRiders_12 : decode cX4_holdByRiders 12 = .ok (.invokestatic 36, 3) := by decide +kernel
theorem dX4_holdByRiders_15 : decode cX4_holdByRiders 15 = .ok (.iconst 0, 1) := by decide +kernel
theorem dX4_holdByRiders_16 : decode cX4_holdByRiders 16 = .ok (.istore_n 2, 1) := by decide +kernel
theorem dX4_holdByRiders_17 : decode cX4_holdByRiders 17 = .ok (.iload_n 2, 1) := by decide +kernel
theorem dX4_holdByRiders_18 : decode cX4_holdByRiders 18 = .ok (.bipush 20, 2) := by decide +kernel
theorem dX4_holdByRiders_20 : decode cX4_holdByRiders 20 = .ok (.if_icmp .ge 73, 3) := by decide +kernel
theorem dX4_holdByRiders_23 : decode cX4_holdByRiders 23 = .ok (.aload_n 0, 1) := by decide +kernel
theorem dX4_holdByRiders_24 : decode cX4_holdByRiders 24 = .ok (.iload_n 1, 1) := by decide +kernel
theorem dX4_holdByRiders_25 : decode cX4_holdByRiders 25 = .ok (.invokevirtual 42, 3) := by decide +kernel
theorem dX4_holdByRiders_28 : decode cX4_holdByRiders 28 = .ok (.istore_n 3, 1) := by decide +kernel
theorem dX4_holdByRiders_29 : decode cX4_holdByRiders 29 = .ok (.iload_n 3, 1) := by decide +kernel
theorem dX4_holdByRiders_30 : decode cX4_holdByRiders 30 = .ok (.bipush (-9), 2) := by decide +kernel
theorem dX4_holdByRiders_32 : decode cX4_holdByRiders 32 = .ok (.if_icmp .ne 4, 3) := by decide +kernel
theorem dX4_holdByRiders_35 : decode cX4_holdByRiders 35 = .ok (.return_, 1) := by decide +kernel
theorem dX4_holdByRiders_36 : decode cX4_holdByRiders 36 = .ok (.aload_n 0, 1) := by decide +kernel
theorem dX4_holdByRiders_37 : decode cX4_holdByRiders 37 = .ok (.getfield 25, 3) := by decide +kernel
theorem dX4_holdByRiders_40 : decode cX4_holdByRiders 40 = .ok (.iload_n 3, 1) := by decide +kernel
theorem dX4_holdByRiders_41 : decode cX4_holdByRiders 41 = .ok (.aload_n 0, 1) := by decide +kernel
theorem dX4_holdByRiders_42 : decode cX4_holdByRiders 42 = .ok (.getfield 18, 3) := by decide +kernel
theorem dX4_holdByRiders_45 : decode cX4_holdByRiders 45 = .ok (.iload_n 3, 1) := by decide +kernel
theorem dX4_holdByRiders_46 : decode cX4_holdByRiders 46 = .ok (.invokestatic 46, 3) := by decide +kernel
theorem dX4_holdByRiders_49 : decode cX4_holdByRiders 49 = .ok (.invokevirtual 50, 3) := by decide +kernel
theorem dX4_holdByRiders_52 : decode cX4_holdByRiders 52 = .ok (.istore 4, 2) := by decide +kernel
theorem dX4_holdByRiders_54 : decode cX4_holdByRiders 54 = .ok (.aload_n 0, 1) := by decide +kernel
theorem dX4_holdByRiders_55 : decode cX4_holdByRiders 55 = .ok (.getfield 18, 3) := by decide +kernel
theorem dX4_holdByRiders_58 : decode cX4_holdByRiders 58 = .ok (.iload_n 3, 1) := by decide +kernel
theorem dX4_holdByRiders_59 : decode cX4_holdByRiders 59 = .ok (.aload_n 0, 1) := by decide +kernel
theorem dX4_holdByRiders_60 : decode cX4_holdByRiders 60 = .ok (.getfield 18, 3) := by decide +kernel
theorem dX4_holdByRiders_63 : decode cX4_holdByRiders 63 = .ok (.iload_n 3, 1) := by decide +kernel
theorem dX4_holdByRiders_64 : decode cX4_holdByRiders 64 = .ok (.invokestatic 46, 3) := by decide +kernel
theorem dX4_holdByRiders_67 : decode cX4_holdByRiders 67 = .ok (.iconst 1, 1) := by decide +kernel
theorem dX4_holdByRiders_68 : decode cX4_holdByRiders 68 = .ok (.iadd, 1) := by decide +kernel
theorem dX4_holdByRiders_69 : decode cX4_holdByRiders 69 = .ok (.invokestatic 56, 3) := by decide +kernel
theorem dX4_holdByRiders_72 : decode cX4_holdByRiders 72 = .ok (.aload_n 0, 1) := by decide +kernel
theorem dX4_holdByRiders_73 : decode cX4_holdByRiders 73 = .ok (.getfield 12, 3) := by decide +kernel
theorem dX4_holdByRiders_76 : decode cX4_holdByRiders 76 = .ok (.iload_n 3, 1) := by decide +kernel
theorem dX4_holdByRiders_77 : decode cX4_holdByRiders 77 = .ok (.iload 4, 2) := by decide +kernel
theorem dX4_holdByRiders_79 : decode cX4_holdByRiders 79 = .ok (.aload_n 0, 1) := by decide +kernel
theorem dX4_holdByRiders_80 : decode cX4_holdByRiders 80 = .ok (.getfield 29, 3) := by decide +kernel
theorem dX4_holdByRiders_83 : decode cX4_holdByRiders 83 = .ok (.invokevirtual 60, 3) := by decide +kernel
theorem dX4_holdByRiders_86 : decode cX4_holdByRiders 86 = .ok (.pop, 1) := by decide +kernel
theorem dX4_holdByRiders_87 : decode cX4_holdByRiders 87 = .ok (.iinc 2 1, 3) := by decide +kernel
theorem dX4_holdByRiders_90 : decode cX4_holdByRiders 90 = .ok (.goto (-73), 3) := by decide +kernel
theorem dX4_holdByRiders_93 : decode cX4_holdByRiders 93 = .ok (.return_, 1) := by decide +kernel
theorem dX4_leastToLead_0 : decode cX4_leastToLead 0 = .ok (.iconst 0, 1) := by decide +kernel
theorem dX4_leastToLead_1 : decode cX4_leastToLead 1 = .ok (.istore_n 2, 1) := by decide +kernel
theorem dX4_leastToLead_2 : decode cX4_leastToLead 2 = .ok (.iload_n 2, 1) := by decide +kernel
theorem dX4_leastToLead_3 : decode cX4_leastToLead 3 = .ok (.aload_n 0, 1) := by decide +kernel
theorem dX4_leastToLead_4 : decode cX4_leastToLead 4 = .ok (.getfield 25, 3) := by decide +kernel
theorem dX4_leastToLead_7 : decode cX4_leastToLead 7 = .ok (.getfield 64, 3) := by decide +kernel
theorem dX4_leastToLead_10 : decode cX4_leastToLead 10 = .ok (.if_icmp .ge 50, 3) := by decide +kernel
theorem dX4_leastToLead_13 : decode cX4_leastToLead 13 = .ok (.iload_n 1, 1) := by decide +kernel
theorem dX4_leastToLead_14 : decode cX4_leastToLead 14 = .ok (.iload_n 2, 1) := by decide +kernel
theorem dX4_leastToLead_15 : decode cX4_leastToLead 15 = .ok (.invokestatic 68, 3) := by decide +kernel
theorem dX4_leastToLead_18 : decode cX4_leastToLead 18 = .ok (.ifCond .eq 36, 3) := by decide +kernel
theorem dX4_leastToLead_21 : decode cX4_leastToLead 21 = .ok (.aload_n 0, 1) := by decide +kernel
theorem dX4_leastToLead_22 : decode cX4_leastToLead 22 = .ok (.getfield 12, 3) := by decide +kernel
theorem dX4_leastToLead_25 : decode cX4_leastToLead 25 = .ok (.iload_n 2, 1) := by decide +kernel
theorem dX4_leastToLead_26 : decode cX4_leastToLead 26 = .ok (.invokevirtual 72, 3) := by decide +kernel
theorem dX4_leastToLead_29 : decode cX4_leastToLead 29 = .ok (.bipush (-9), 2) := by decide +kernel
theorem dX4_leastToLead_31 : decode cX4_leastToLead 31 = .ok (.if_icmp .ne 23, 3) := by decide +kernel
theorem dX4_leastToLead_34 : decode cX4_leastToLead 34 = .ok (.aload_n 0, 1) := by decide +kernel
theorem dX4_leastToLead_35 : decode cX4_leastToLead 35 = .ok (.getfield 18, 3) := by decide +kernel
theorem dX4_leastToLead_38 : decode cX4_leastToLead 38 = .ok (.iload_n 2, 1) := by decide +kernel
theorem dX4_leastToLead_39 : decode cX4_leastToLead 39 = .ok (.invokestatic 46, 3) := by decide +kernel
theorem dX4_leastToLead_42 : decode cX4_leastToLead 42 = .ok (.aload_n 0, 1) := by decide +kernel
theorem dX4_leastToLead_43 : decode cX4_leastToLead 43 = .ok (.getfield 25, 3) := by decide +kernel
theorem dX4_leastToLead_46 : decode cX4_leastToLead 46 = .ok (.getfield 75, 3) := by decide +kernel
theorem dX4_leastToLead_49 : decode cX4_leastToLead 49 = .ok (.if_icmp .ge 5, 3) := by decide +kernel
theorem dX4_leastToLead_52 : decode cX4_leastToLead 52 = .ok (.iload_n 2, 1) := by decide +kernel
theorem dX4_leastToLead_53 : decode cX4_leastToLead 53 = .ok (.ireturn, 1) := by decide +kernel
theorem dX4_leastToLead_54 : decode cX4_leastToLead 54 = .ok (.iinc 2 1, 3) := by decide +kernel
theorem dX4_leastToLead_57 : decode cX4_leastToLead 57 = .ok (.goto (-55), 3) := by decide +kernel
theorem dX4_leastToLead_60 : decode cX4_leastToLead 60 = .ok (.bipush (-9), 2) := by decide +kernel
theorem dX4_leastToLead_62 : decode cX4_leastToLead 62 = .ok (.ireturn, 1) := by decide +kernel
theorem dX4_holdByHorses_0 : decode cX4_holdByHorses 0 = .ok (.aload_n 0, 1) := by decide +kernel
theorem dX4_holdByHorses_1 : decode cX4_holdByHorses 1 = .ok (.getfield 12, 3) := by decide +kernel
theorem dX4_holdByHorses_4 : decode cX4_holdByHorses 4 = .ok (.invokevirtual 33, 3) := by decide +kernel
theorem dX4_holdByHorses_7 : decode cX4_holdByHorses 7 = .ok (.aload_n 0, 1) := by decide +kernel
theorem dX4_holdByHorses_8 : decode cX4_holdByHorses 8 = .ok (.getfield 22, 3) := by decide +kernel
theorem dX4_holdByHorses_11 : decode cX4_holdByHorses 11 = .ok (.iconst 0, 1) := by decide +kernel
theorem dX4_holdByHorses_12 : decode cX4_holdByHorses 12 = .ok (.invokestatic 36, 3) := by decide +kernel
theorem dX4_holdByHorses_15 : decode cX4_holdByHorses 15 = .ok (.iconst 0, 1) := by decide +kernel
theorem dX4_holdByHorses_16 : decode cX4_holdByHorses 16 = .ok (.istore_n 1, 1) := by decide +kernel
theorem dX4_holdByHorses_17 : decode cX4_holdByHorses 17 = .ok (.iload_n 1, 1) := by decide +kernel
theorem dX4_holdByHorses_18 : decode cX4_holdByHorses 18 = .ok (.bipush 20, 2) := by decide +kernel
theorem dX4_holdByHorses_20 : decode cX4_holdByHorses 20 = .ok (.if_icmp .ge 76, 3) := by decide +kernel
theorem dX4_holdByHorses_23 : decode cX4_holdByHorses 23 = .ok (.aload_n 0, 1) := by decide +kernel
theorem dX4_holdByHorses_24 : decode cX4_holdByHorses 24 = .ok (.invokevirtual 78, 3) := by decide +kernel
theorem dX4_holdByHorses_27 : decode cX4_holdByHorses 27 = .ok (.istore_n 2, 1) := by decide +kernel
theorem dX4_holdByHorses_28 : decode cX4_holdByHorses 28 = .ok (.iload_n 2, 1) := by decide +kernel
theorem dX4_holdByHorses_29 : decode cX4_holdByHorses 29 = .ok (.bipush (-9), 2) := by decide +kernel
theorem dX4_holdByHorses_31 : decode cX4_holdByHorses 31 = .ok (.if_icmp .ne 4, 3) := by decide +kernel
theorem dX4_holdByHorses_34 : decode cX4_holdByHorses 34 = .ok (.return_, 1) := by decide +kernel
theorem dX4_holdByHorses_35 : decode cX4_holdByHorses 35 = .ok (.aload_n 0, 1) := by decide +kernel
theorem dX4_holdByHorses_36 : decode cX4_holdByHorses 36 = .ok (.iload_n 2, 1) := by decide +kernel
theorem dX4_holdByHorses_37 : decode cX4_holdByHorses 37 = .ok (.invokevirtual 82, 3) := by decide +kernel
theorem dX4_holdByHorses_40 : decode cX4_holdByHorses 40 = .ok (.istore_n 3, 1) := by decide +kernel
theorem dX4_holdByHorses_41 : decode cX4_holdByHorses 41 = .ok (.aload_n 0, 1) := by decide +kernel
theorem dX4_holdByHorses_42 : decode cX4_holdByHorses 42 = .ok (.getfield 22, 3) := by decide +kernel
theorem dX4_holdByHorses_45 : decode cX4_holdByHorses 45 = .ok (.iload_n 2, 1) := by decide +kernel
theorem dX4_holdByHorses_46 : decode cX4_holdByHorses 46 = .ok (.aload_n 0, 1) := by decide +kernel
theorem dX4_holdByHorses_47 : decode cX4_holdByHorses 47 = .ok (.getfield 22, 3) := by decide +kernel
theorem dX4_holdByHorses_50 : decode cX4_holdByHorses 50 = .ok (.iload_n 2, 1) := by decide +kernel
theorem dX4_holdByHorses_51 : decode cX4_holdByHorses 51 = .ok (.invokestatic 46, 3) := by decide +kernel
theorem dX4_holdByHorses_54 : decode cX4_holdByHorses 54 = .ok (.iconst 1, 1) := by decide +kernel
theorem dX4_holdByHorses_55 : decode cX4_holdByHorses 55 = .ok (.iload_n 3, 1) := by decide +kernel
theorem dX4_holdByHorses_56 : decode cX4_holdByHorses 56 = .ok (.ishl, 1) := by decide +kernel
theorem dX4_holdByHorses_57 : decode cX4_holdByHorses 57 = .ok (.ior, 1) := by decide +kernel
theorem dX4_holdByHorses_58 : decode cX4_holdByHorses 58 = .ok (.invokestatic 56, 3) := by decide +kernel
theorem dX4_holdByHorses_61 : decode cX4_holdByHorses 61 = .ok (.aload_n 0, 1) := by decide +kernel
theorem dX4_holdByHorses_62 : decode cX4_holdByHorses 62 = .ok (.getfield 25, 3) := by decide +kernel
theorem dX4_holdByHorses_65 : decode cX4_holdByHorses 65 = .ok (.iload_n 3, 1) := by decide +kernel
theorem dX4_holdByHorses_66 : decode cX4_holdByHorses 66 = .ok (.iload_n 2, 1) := by decide +kernel
theorem dX4_holdByHorses_67 : decode cX4_holdByHorses 67 = .ok (.aload_n 0, 1) := by decide +kernel
theorem dX4_holdByHorses_68 : decode cX4_holdByHorses 68 = .ok (.getfield 12, 3) := by decide +kernel
theorem dX4_holdByHorses_71 : decode cX4_holdByHorses 71 = .ok (.iload_n 3, 1) := by decide +kernel
theorem dX4_holdByHorses_72 : decode cX4_holdByHorses 72 = .ok (.invokevirtual 72, 3) := by decide +kernel
theorem dX4_holdByHorses_75 : decode cX4_holdByHorses 75 = .ok (.invokevirtual 85, 3) := by decide +kernel
theorem dX4_holdByHorses_78 : decode cX4_holdByHorses 78 = .ok (.ifCond .eq 12, 3) := by decide +kernel
theorem dX4_holdByHorses_81 : decode cX4_holdByHorses 81 = .ok (.aload_n 0, 1) := by decide +kernel
theorem dX4_holdByHorses_82 : decode cX4_holdByHorses 82 = .ok (.getfield 12, 3) := by decide +kernel
theorem dX4_holdByHorses_85 : decode cX4_holdByHorses 85 = .ok (.iload_n 3, 1) := by decide +kernel
theorem dX4_holdByHorses_86 : decode cX4_holdByHorses 86 = .ok (.iload_n 2, 1) := by decide +kernel
theorem dX4_holdByHorses_87 : decode cX4_holdByHorses 87 = .ok (.invokevirtual 89, 3) := by decide +kernel
theorem dX4_holdByHorses_90 : decode cX4_holdByHorses 90 = .ok (.iinc 1 1, 3) := by decide +kernel
theorem dX4_holdByHorses_93 : decode cX4_holdByHorses 93 = .ok (.goto (-76), 3) := by decide +kernel
theorem dX4_holdByHorses_96 : decode cX4_holdByHorses 96 = .ok (.return_, 1) := by decide +kernel
theorem dX4_leastToAsk_0 : decode cX4_leastToAsk 0 = .ok (.iconst 0, 1) := by decide +kernel
theorem dX4_leastToAsk_1 : decode cX4_leastToAsk 1 = .ok (.istore_n 1, 1) := by decide +kernel
theorem dX4_leastToAsk_2 : decode cX4_leastToAsk 2 = .ok (.iload_n 1, 1) := by decide +kernel
theorem dX4_leastToAsk_3 : decode cX4_leastToAsk 3 = .ok (.aload_n 0, 1) := by decide +kernel
theorem dX4_leastToAsk_4 : decode cX4_leastToAsk 4 = .ok (.getfield 25, 3) := by decide +kernel
theorem dX4_leastToAsk_7 : decode cX4_leastToAsk 7 = .ok (.getfield 75, 3) := by decide +kernel
theorem dX4_leastToAsk_10 : decode cX4_leastToAsk 10 = .ok (.if_icmp .ge 43, 3) := by decide +kernel
theorem dX4_leastToAsk_13 : decode cX4_leastToAsk 13 = .ok (.aload_n 0, 1) := by decide +kernel
theorem dX4_leastToAsk_14 : decode cX4_leastToAsk 14 = .ok (.getfield 12, 3) := by decide +kernel
theorem dX4_leastToAsk_17 : decode cX4_leastToAsk 17 = .ok (.iload_n 1, 1) := by decide +kernel
theorem dX4_leastToAsk_18 : decode cX4_leastToAsk 18 = .ok (.invokevirtual 93, 3) := by decide +kernel
theorem dX4_leastToAsk_21 : decode cX4_leastToAsk 21 = .ok (.aload_n 0, 1) := by decide +kernel
theorem dX4_leastToAsk_22 : decode cX4_leastToAsk 22 = .ok (.getfield 25, 3) := by decide +kernel
theorem dX4_leastToAsk_25 : decode cX4_leastToAsk 25 = .ok (.getfield 96, 3) := by decide +kernel
theorem dX4_leastToAsk_28 : decode cX4_leastToAsk 28 = .ok (.iload_n 1, 1) := by decide +kernel
theorem dX4_leastToAsk_29 : decode cX4_leastToAsk 29 = .ok (.invokestatic 46, 3) := by decide +kernel
theorem dX4_leastToAsk_32 : decode cX4_leastToAsk 32 = .ok (.if_icmp .ge 15, 3) := by decide +kernel
theorem dX4_leastToAsk_35 : decode cX4_leastToAsk 35 = .ok (.aload_n 0, 1) := by decide +kernel
theorem dX4_leastToAsk_36 : decode cX4_leastToAsk 36 = .ok (.iload_n 1, 1) := by decide +kernel
theorem dX4_leastToAsk_37 : decode cX4_leastToAsk 37 = .ok (.invokevirtual 82, 3) := by decide +kernel
theorem dX4_leastToAsk_40 : decode cX4_leastToAsk 40 = .ok (.bipush (-9), 2) := by decide +kernel
theorem dX4_leastToAsk_42 : decode cX4_leastToAsk 42 = .ok (.if_icmp .eq 5, 3) := by decide +kernel
theorem dX4_leastToAsk_45 : decode cX4_leastToAsk 45 = .ok (.iload_n 1, 1) := by decide +kernel
theorem dX4_leastToAsk_46 : decode cX4_leastToAsk 46 = .ok (.ireturn, 1) := by decide +kernel
theorem dX4_leastToAsk_47 : decode cX4_leastToAsk 47 = .ok (.iinc 1 1, 3) := by decide +kernel
theorem dX4_leastToAsk_50 : decode cX4_leastToAsk 50 = .ok (.goto (-48), 3) := by decide +kernel
theorem dX4_leastToAsk_53 : decode cX4_leastToAsk 53 = .ok (.bipush (-9), 2) := by decide +kernel
theorem dX4_leastToAsk_55 : decode cX4_leastToAsk 55 = .ok (.ireturn, 1) := by decide +kernel
theorem dX4_bestToAsk_0 : decode cX4_bestToAsk 0 = .ok (.bipush (-9), 2) := by decide +kernel
theorem dX4_bestToAsk_2 : decode cX4_bestToAsk 2 = .ok (.istore_n 2, 1) := by decide +kernel
theorem dX4_bestToAsk_3 : decode cX4_bestToAsk 3 = .ok (.iconst 0, 1) := by decide +kernel
theorem dX4_bestToAsk_4 : decode cX4_bestToAsk 4 = .ok (.istore_n 3, 1) := by decide +kernel
theorem dX4_bestToAsk_5 : decode cX4_bestToAsk 5 = .ok (.iload_n 3, 1) := by decide +kernel
theorem dX4_bestToAsk_6 : decode cX4_bestToAsk 6 = .ok (.aload_n 0, 1) := by decide +kernel
theorem dX4_bestToAsk_7 : decode cX4_bestToAsk 7 = .ok (.getfield 25, 3) := by decide +kernel
theorem dX4_bestToAsk_10 : decode cX4_bestToAsk 10 = .ok (.getfield 64, 3) := by decide +kernel
theorem dX4_bestToAsk_13 : decode cX4_bestToAsk 13 = .ok (.if_icmp .ge 69, 3) := by decide +kernel
theorem dX4_bestToAsk_16 : decode cX4_bestToAsk 16 = .ok (.aload_n 0, 1) := by decide +kernel
theorem dX4_bestToAsk_17 : decode cX4_bestToAsk 17 = .ok (.getfield 22, 3) := by decide +kernel
theorem dX4_bestToAsk_20 : decode cX4_bestToAsk 20 = .ok (.iload_n 1, 1) := by decide +kernel
theorem dX4_bestToAsk_21 : decode cX4_bestToAsk 21 = .ok (.invokestatic 46, 3) := by decide +kernel
theorem dX4_bestToAsk_24 : decode cX4_bestToAsk 24 = .ok (.iload_n 3, 1) := by decide +kernel
theorem dX4_bestToAsk_25 : decode cX4_bestToAsk 25 = .ok (.invokestatic 68, 3) := by decide +kernel
theorem dX4_bestToAsk_28 : decode cX4_bestToAsk 28 = .ok (.ifCond .ne 19, 3) := by decide +kernel
theorem dX4_bestToAsk_31 : decode cX4_bestToAsk 31 = .ok (.aload_n 0, 1) := by decide +kernel
theorem dX4_bestToAsk_32 : decode cX4_bestToAsk 32 = .ok (.getfield 29, 3) := by decide +kernel
theorem dX4_bestToAsk_35 : decode cX4_bestToAsk 35 = .ok (.iload_n 1, 1) := by decide +kernel
theorem dX4_bestToAsk_36 : decode cX4_bestToAsk 36 = .ok (.iload_n 3, 1) := by decide +kernel
theorem dX4_bestToAsk_37 : decode cX4_bestToAsk 37 = .ok (.invokevirtual 99, 3) := by decide +kernel
theorem dX4_bestToAsk_40 : decode cX4_bestToAsk 40 = .ok (.ifCond .eq 7, 3) := by decide +kernel
theorem dX4_bestToAsk_43 : decode cX4_bestToAsk 43 = .ok (.iconst 1, 1) := by decide +kernel
theorem dX4_bestToAsk_44 : decode cX4_bestToAsk 44 = .ok (.goto 4, 3) := by decide +kernel
theorem dX4_bestToAsk_47 : decode cX4_bestToAsk 47 = .ok (.iconst 0, 1) := by decide +kernel
theorem dX4_bestToAsk_48 : decode cX4_bestToAsk 48 = .ok (.istore 4, 2) := by decide +kernel
theorem dX4_bestToAsk_50 : decode cX4_bestToAsk 50 = .ok (.iload 4, 2) := by decide +kernel
theorem dX4_bestToAsk_52 : decode cX4_bestToAsk 52 = .ok (.ifCond .eq 24, 3) := by decide +kernel
theorem dX4_bestToAsk_55 : decode cX4_bestToAsk 55 = .ok (.iload_n 2, 1) := by decide +kernel
theorem dX4_bestToAsk_56 : decode cX4_bestToAsk 56 = .ok (.bipush (-9), 2) := by decide +kernel
theorem dX4_bestToAsk_58 : decode cX4_bestToAsk 58 = .ok (.if_icmp .eq 16, 3) := by decide +kernel
theorem dX4_bestToAsk_61 : decode cX4_bestToAsk 61 = .ok (.aload_n 0, 1) := by decide +kernel
theorem dX4_bestToAsk_62 : decode cX4_bestToAsk 62 = .ok (.getfield 29, 3) := by decide +kernel
theorem dX4_bestToAsk_65 : decode cX4_bestToAsk 65 = .ok (.iload_n 1, 1) := by decide +kernel
theorem dX4_bestToAsk_66 : decode cX4_bestToAsk 66 = .ok (.iload_n 3, 1) := by decide +kernel
theorem dX4_bestToAsk_67 : decode cX4_bestToAsk 67 = .ok (.iload_n 2, 1) := by decide +kernel
theorem dX4_bestToAsk_68 : decode cX4_bestToAsk 68 = .ok (.invokevirtual 104, 3) := by decide +kernel
theorem dX4_bestToAsk_71 : decode cX4_bestToAsk 71 = .ok (.ifCond .eq 5, 3) := by decide +kernel
theorem dX4_bestToAsk_74 : decode cX4_bestToAsk 74 = .ok (.iload_n 3, 1) := by decide +kernel
theorem dX4_bestToAsk_75 : decode cX4_bestToAsk 75 = .ok (.istore_n 2, 1) := by decide +kernel
theorem dX4_bestToAsk_76 : decode cX4_bestToAsk 76 = .ok (.iinc 3 1, 3) := by decide +kernel
theorem dX4_bestToAsk_79 : decode cX4_bestToAsk 79 = .ok (.goto (-74), 3) := by decide +kernel
theorem dX4_bestToAsk_82 : decode cX4_bestToAsk 82 = .ok (.iload_n 2, 1) := by decide +kernel
theorem dX4_bestToAsk_83 : decode cX4_bestToAsk 83 = .ok (.ireturn, 1) := by decide +kernel
theorem dX5_init_0 : decode cX5_init 0 = .ok (.aload_n 0, 1) := by decide +kernel
theorem dX5_init_1 : decode cX5_init 1 = .ok (.invokespecial 3, 3) := by decide +kernel
theorem dX5_init_4 : decode cX5_init 4 = .ok (.aload_n 0, 1) := by decide +kernel
theorem dX5_init_5 : decode cX5_init 5 = .ok (.new 9, 3) := by decide +kernel
theorem dX5_init_8 : decode cX5_init 8 = .ok (.dup, 1) := by decide +kernel
theorem dX5_init_9 : decode cX5_init 9 = .ok (.invokespecial 11, 3) := by decide +kernel
theorem dX5_init_12 : decode cX5_init 12 = .ok (.putfield 12, 3) := by decide +kernel
theorem dX5_init_15 : decode cX5_init 15 = .ok (.aload_n 0, 1) := by decide +kernel
theorem dX5_init_16 : decode cX5_init 16 = .ok (.bipush 15, 2) := by decide +kernel
theorem dX5_init_18 : decode cX5_init 18 = .ok (.newarray .int, 2) := by decide +kernel
theorem dX5_init_20 : decode cX5_init 20 = .ok (.putfield 18, 3) := by decide +kernel
theorem dX5_init_23 : decode cX5_init 23 = .ok (.return_, 1) := by decide +kernel
theorem dX5_clear_0 : decode cX5_clear 0 = .ok (.aload_n 0, 1) := by decide +kernel
theorem dX5_clear_1 : decode cX5_clear 1 = .ok (.getfield 12, 3) := by decide +kernel
theorem dX5_clear_4 : decode cX5_clear 4 = .ok (.invokevirtual 22, 3) := by decide +kernel
theorem dX5_clear_7 : decode cX5_clear 7 = .ok (.aload_n 0, 1) := by decide +kernel
theorem dX5_clear_8 : decode cX5_clear 8 = .ok (.getfield 18, 3) := by decide +kernel
theorem dX5_clear_11 : decode cX5_clear 11 = .ok (.iconst 0, 1) := by decide +kernel
theorem dX5_clear_12 : decode cX5_clear 12 = .ok (.invokestatic 25, 3) := by decide +kernel
theorem dX5_clear_15 : decode cX5_clear 15 = .ok (.aload_n 0, 1) := by decide +kernel
theorem dX5_clear_16 : decode cX5_clear 16 = .ok (.iconst 0, 1) := by decide +kernel
theorem dX5_clear_17 : decode cX5_clear 17 = .ok (.putfield 31, 3) := by decide +kernel
theorem dX5_clear_20 : decode cX5_clear 20 = .ok (.return_, 1) := by decide +kernel
theorem dX5_copyFrom_0 : decode cX5_copyFrom 0 = .ok (.aload_n 0, 1) := by decide +kernel
theorem dX5_copyFrom_1 : decode cX5_copyFrom 1 = .ok (.getfield 12, 3) := by decide +kernel
theorem dX5_copyFrom_4 : decode cX5_copyFrom 4 = .ok (.aload_n 1, 1) := by decide +kernel
theorem dX5_copyFrom_5 : decode cX5_copyFrom 5 = .ok (.getfield 12, 3) := by decide +kernel
theorem dX5_copyFrom_8 : decode cX5_copyFrom 8 = .ok (.invokevirtual 35, 3) := by decide +kernel
theorem dX5_copyFrom_11 : decode cX5_copyFrom 11 = .ok (.aload_n 1, 1) := by decide +kernel
theorem dX5_copyFrom_12 : decode cX5_copyFrom 12 = .ok (.getfield 18, 3) := by decide +kernel
theorem dX5_copyFrom_15 : decode cX5_copyFrom 15 = .ok (.iconst 0, 1) := by decide +kernel
theorem dX5_copyFrom_16 : decode cX5_copyFrom 16 = .ok (.aload_n 0, 1) := by decide +kernel
theorem dX5_copyFrom_17 : decode cX5_copyFrom 17 = .ok (.getfield 18, 3) := by decide +kernel
theorem dX5_copyFrom_20 : decode cX5_copyFrom 20 = .ok (.iconst 0, 1) := by decide +kernel
theorem dX5_copyFrom_21 : decode cX5_copyFrom 21 = .ok (.aload_n 0, 1) := by decide +kernel
theorem dX5_copyFrom_22 : decode cX5_copyFrom 22 = .ok (.getfield 18, 3) := by decide +kernel
theorem dX5_copyFrom_25 : decode cX5_copyFrom 25 = .ok (.arraylength, 1) := by decide +kernel
theorem dX5_copyFrom_26 : decode cX5_copyFrom 26 = .ok (.invokestatic 39, 3) := by decide +kernel
theorem dX5_copyFrom_29 : decode cX5_copyFrom 29 = .ok (.aload_n 0, 1) := by decide +kernel
theorem dX5_copyFrom_30 : decode cX5_copyFrom 30 = .ok (.aload_n 1, 1) := by decide +kernel
theorem dX5_copyFrom_31 : decode cX5_copyFrom 31 = .ok (.getfield 31, 3) := by decide +kernel
theorem dX5_copyFrom_34 : decode cX5_copyFrom 34 = .ok (.putfield 31, 3) := by decide +kernel
theorem dX5_copyFrom_37 : decode cX5_copyFrom 37 = .ok (.return_, 1) := by decide +kernel
theorem dX6_init_0 : decode cX6_init 0 = .ok (.aload_n 0, 1) := by decide +kernel
theorem dX6_init_1 : decode cX6_init 1 = .ok (.invokespecial 3, 3) := by decide +kernel
theorem dX6_init_4 : decode cX6_init 4 = .ok (.aload_n 0, 1) := by decide +kernel
theorem dX6_init_5 : decode cX6_init 5 = .ok (.bipush 64, 2) := by decide +kernel
theorem dX6_init_7 : decode cX6_init 7 = .ok (.newarray .int, 2) := by decide +kernel
theorem dX6_init_9 : decode cX6_init 9 = .ok (.putfield 11, 3) := by decide +kernel
theorem dX6_init_12 : decode cX6_init 12 = .ok (.return_, 1) := by decide +kernel
theorem dX6_add_0 : decode cX6_add 0 = .ok (.aload_n 0, 1) := by decide +kernel
theorem dX6_add_1 : decode cX6_add 1 = .ok (.getfield 15, 3) := by decide +kernel
theorem dX6_add_4 : decode cX6_add 4 = .ok (.bipush 64, 2) := by decide +kernel
theorem dX6_add_6 : decode cX6_add 6 = .ok (.if_icmp .lt 5, 3) := by decide +kernel
theorem dX6_add_9 : decode cX6_add 9 = .ok (.iconst 0, 1) := by decide +kernel
theorem dX6_add_10 : decode cX6_add 10 = .ok (.ireturn, 1) := by decide +kernel
theorem dX6_add_11 : decode cX6_add 11 = .ok (.aload_n 0, 1) := by decide +kernel
theorem dX6_add_12 : decode cX6_add 12 = .ok (.getfield 11, 3) := by decide +kernel
theorem dX6_add_15 : decode cX6_add 15 = .ok (.aload_n 0, 1) := by decide +kernel
theorem dX6_add_16 : decode cX6_add 16 = .ok (.getfield 15, 3) := by decide +kernel
theorem dX6_add_19 : decode cX6_add 19 = .ok (.iload_n 1, 1) := by decide +kernel
theorem dX6_add_20 : decode cX6_add 20 = .ok (.invokestatic 19, 3) := by decide +kernel
theorem dX6_add_23 : decode cX6_add 23 = .ok (.aload_n 0, 1) := by decide +kernel
theorem dX6_add_24 : decode cX6_add 24 = .ok (.dup, 1) := by decide +kernel
theorem dX6_add_25 : decode cX6_add 25 = .ok (.getfield 15, 3) := by decide +kernel
theorem dX6_add_28 : decode cX6_add 28 = .ok (.iconst 1, 1) := by decide +kernel
theorem dX6_add_29 : decode cX6_add 29 = .ok (.iadd, 1) := by decide +kernel
theorem dX6_add_30 : decode cX6_add 30 = .ok (.putfield 15, 3) := by decide +kernel
theorem dX6_add_33 : decode cX6_add 33 = .ok (.iconst 1, 1) := by decide +kernel
theorem dX6_add_34 : decode cX6_add 34 = .ok (.ireturn, 1) := by decide +kernel
theorem dX6_byteAt_0 : decode cX6_byteAt 0 = .ok (.iload_n 1, 1) := by decide +kernel
theorem dX6_byteAt_1 : decode cX6_byteAt 1 = .ok (.aload_n 0, 1) := by decide +kernel
theorem dX6_byteAt_2 : decode cX6_byteAt 2 = .ok (.getfield 15, 3) := by decide +kernel
theorem dX6_byteAt_5 : decode cX6_byteAt 5 = .ok (.if_icmp .ge 14, 3) := by decide +kernel
theorem dX6_byteAt_8 : decode cX6_byteAt 8 = .ok (.aload_n 0, 1) := by decide +kernel
theorem dX6_byteAt_9 : decode cX6_byteAt 9 = .ok (.getfield 11, 3) := by decide +kernel
theorem dX6_byteAt_12 : decode cX6_byteAt 12 = .ok (.iload_n 1, 1) := by decide +kernel
theorem dX6_byteAt_13 : decode cX6_byteAt 13 = .ok (.invokestatic 23, 3) := by decide +kernel
theorem dX6_byteAt_16 : decode cX6_byteAt 16 = .ok (.goto 5, 3) := by decide +kernel
theorem dX6_byteAt_19 : decode cX6_byteAt 19 = .ok (.bipush (-9), 2) := by decide +kernel
theorem dX6_byteAt_21 : decode cX6_byteAt 21 = .ok (.ireturn, 1) := by decide +kernel
theorem dX6_figureAt_0 : decode cX6_figureAt 0 = .ok (.aload_n 0, 1) := by decide +kernel
theorem dX6_figureAt_1 : decode cX6_figureAt 1 = .ok (.iload_n 1, 1) := by decide +kernel
theorem dX6_figureAt_2 : decode cX6_figureAt 2 = .ok (.invokevirtual 27, 3) := by decide +kernel
theorem dX6_figureAt_5 : decode cX6_figureAt 5 = .ok (.bipush 48, 2) := by decide +kernel
theorem dX6_figureAt_7 : decode cX6_figureAt 7 = .ok (.isub, 1) := by decide +kernel
theorem dX6_figureAt_8 : decode cX6_figureAt 8 = .ok (.ireturn, 1) := by decide +kernel
theorem dX6_isHorse_0 : decode cX6_isHorse 0 = .ok (.aload_n 0, 1) := by decide +kernel
theorem dX6_isHorse_1 : decode cX6_isHorse 1 = .ok (.iload_n 1, 1) := by decide +kernel
theorem dX6_isHorse_2 : decode cX6_isHorse 2 = .ok (.invokevirtual 27, 3) := by decide +kernel
theorem dX6_isHorse_5 : decode cX6_isHorse 5 = .ok (.bipush 72, 2) := by decide +kernel
theorem dX6_isHorse_7 : decode cX6_isHorse 7 = .ok (.if_icmp .ne 7, 3) := by decide +kernel
theorem dX6_isHorse_10 : decode cX6_isHorse 10 = .ok (.iconst 1, 1) := by decide +kernel
theorem dX6_isHorse_11 : decode cX6_isHorse 11 = .ok (.goto 4, 3) := by decide +kernel
theorem dX6_isHorse_14 : decode cX6_isHorse 14 = .ok (.iconst 0, 1) := by decide +kernel
theorem dX6_isHorse_15 : decode cX6_isHorse 15 = .ok (.ireturn, 1) := by decide +kernel
theorem dX6_partSize_0 : decode cX6_partSize 0 = .ok (.aload_n 0, 1) := by decide +kernel
theorem dX6_partSize_1 : decode cX6_partSize 1 = .ok (.iload_n 1, 1) := by decide +kernel
theorem dX6_partSize_2 : decode cX6_partSize 2 = .ok (.invokevirtual 31, 3) := by decide +kernel
theorem dX6_partSize_5 : decode cX6_partSize 5 = .ok (.ifCond .eq 8, 3) := by decide +kernel
theorem dX6_partSize_8 : decode cX6_partSize 8 = .ok (.bipush 9, 2) := by decide +kernel
theorem dX6_partSize_10 : decode cX6_partSize 10 = .ok (.goto 4, 3) := by decide +kernel
theorem dX6_partSize_13 : decode cX6_partSize 13 = .ok (.iconst 5, 1) := by decide +kernel
theorem dX6_partSize_14 : decode cX6_partSize 14 = .ok (.ireturn, 1) := by decide +kernel
theorem dX6_firstFault_0 : decode cX6_firstFault 0 = .ok (.aload_n 0, 1) := by decide +kernel
theorem dX6_firstFault_1 : decode cX6_firstFault 1 = .ok (.iconst 0, 1) := by decide +kernel
theorem dX6_firstFault_2 : decode cX6_firstFault 2 = .ok (.invokevirtual 27, 3) := by decide +kernel
theorem dX6_firstFault_5 : decode cX6_firstFault 5 = .ok (.bipush 70, 2) := by decide +kernel
theorem dX6_firstFault_7 : decode cX6_firstFault 7 = .ok (.if_icmp .eq 5, 3) := by decide +kernel
theorem dX6_firstFault_10 : decode cX6_firstFault 10 = .ok (.iconst 0, 1) := by decide +kernel
theorem dX6_firstFault_11 : decode cX6_firstFault 11 = .ok (.ireturn, 1) := by decide +kernel
theorem dX6_firstFault_12 : decode cX6_firstFault 12 = .ok (.iconst 4, 1) := by decide +kernel
theorem dX6_firstFault_13 : decode cX6_firstFault 13 = .ok (.istore_n 1, 1) := by decide +kernel
theorem dX6_firstFault_14 : decode cX6_firstFault 14 = .ok (.iconst 5, 1) := by decide +kernel
theorem dX6_firstFault_15 : decode cX6_firstFault 15 = .ok (.istore_n 2, 1) := by decide +kernel
theorem dX6_firstFault_16 : decode cX6_firstFault 16 = .ok (.iconst 1, 1) := by decide +kernel
theorem dX6_firstFault_17 : decode cX6_firstFault 17 = .ok (.istore_n 3, 1) := by decide +kernel
theorem dX6_firstFault_18 : decode cX6_firstFault 18 = .ok (.iconst 0, 1) := by decide +kernel
theorem dX6_firstFault_19 : decode cX6_firstFault 19 = .ok (.istore 4, 2) := by decide +kernel
theorem dX6_firstFault_21 : decode cX6_firstFault 21 = .ok (.iload 4, 2) := by decide +kernel
theorem dX6_firstFault_23 : decode cX6_firstFault 23 = .ok (.bipush 64, 2) := by decide +kernel
theorem dX6_firstFault_25 : decode cX6_firstFault 25 = .ok (.if_icmp .ge 82, 3) := by decide +kernel
theorem dX6_firstFault_28 : decode cX6_firstFault 28 = .ok (.iload_n 3, 1) := by decide +kernel
theorem dX6_firstFault_29 : decode cX6_firstFault 29 = .ok (.aload_n 0, 1) := by decide +kernel
theorem dX6_firstFault_30 : decode cX6_firstFault 30 = .ok (.getfield 15, 3) := by decide +kernel
theorem dX6_firstFault_33 : decode cX6_firstFault 33 = .ok (.if_icmp .ge 74, 3) := by decide +kernel
theorem dX6_firstFault_36 : decode cX6_firstFault 36 = .ok (.aload_n 0, 1) := by decide +kernel
theorem dX6_firstFault_37 : decode cX6_firstFault 37 = .ok (.iload_n 3, 1) := by decide +kernel
theorem dX6_firstFault_38 : decode cX6_firstFault 38 = .ok (.invokevirtual 31, 3) := by decide +kernel
theorem dX6_firstFault_41 : decode cX6_firstFault 41 = .ok (.ifCond .eq 13, 3) := by decide +kernel
theorem dX6_firstFault_44 : decode cX6_firstFault 44 = .ok (.iload_n 1, 1) := by decide +kernel
theorem dX6_firstFault_45 : decode cX6_firstFault 45 = .ok (.ifCond .le 9, 3) := by decide +kernel
theorem dX6_firstFault_48 : decode cX6_firstFault 48 = .ok (.iinc 1 (-1), 3) := by decide +kernel
theorem dX6_firstFault_51 : decode cX6_firstFault 51 = .ok (.goto 25, 3) := by decide +kernel
theorem dX6_firstFault_54 : decode cX6_firstFault 54 = .ok (.aload_n 0, 1) := by decide +kernel
theorem dX6_firstFault_55 : decode cX6_firstFault 55 = .ok (.iload_n 3, 1) := by decide +kernel
theorem dX6_firstFault_56 : decode cX6_firstFault 56 = .ok (.invokevirtual 27, 3) := by decide +kernel
theorem dX6_firstFault_59 : decode cX6_firstFault 59 = .ok (.bipush 82, 2) := by decide +kernel
theorem dX6_firstFault_61 : decode cX6_firstFault 61 = .ok (.if_icmp .ne 13, 3) := by decide +kernel
theorem dX6_firstFault_64 : decode cX6_firstFault 64 = .ok (.iload_n 2, 1) := by decide +kernel
theorem dX6_firstFault_65 : decode cX6_firstFault 65 = .ok (.ifCond .le 9, 3) := by decide +kernel
theorem dX6_firstFault_68 : decode cX6_firstFault 68 = .ok (.iinc 2 (-1), 3) := by decide +kernel
theorem dX6_firstFault_71 : decode cX6_firstFault 71 = .ok (.goto 5, 3) := by decide +kernel
theorem dX6_firstFault_74 : decode cX6_firstFault 74 = .ok (.iload_n 3, 1) := by decide +kernel
theorem dX6_firstFault_75 : decode cX6_firstFault 75 = .ok (.ireturn, 1) := by decide +kernel
theorem dX6_firstFault_76 : decode cX6_firstFault 76 = .ok (.aload_n 0, 1) := by decide +kernel
theorem dX6_firstFault_77 : decode cX6_firstFault 77 = .ok (.iload_n 3, 1) := by decide +kernel
theorem dX6_firstFault_78 : decode cX6_firstFault 78 = .ok (.invokevirtual 35, 3) := by decide +kernel
theorem dX6_firstFault_81 : decode cX6_firstFault 81 = .ok (.istore 5, 2) := by decide +kernel
theorem dX6_firstFault_83 : decode cX6_firstFault 83 = .ok (.iload 5, 2) := by decide +kernel
theorem dX6_firstFault_85 : decode cX6_firstFault 85 = .ok (.bipush (-9), 2) := by decide +kernel
theorem dX6_firstFault_87 : decode cX6_firstFault 87 = .ok (.if_icmp .eq 6, 3) := by decide +kernel
theorem dX6_firstFault_90 : decode cX6_firstFault 90 = .ok (.iload 5, 2) := by decide +kernel
theorem dX6_firstFault_92 : decode cX6_firstFault 92 = .ok (.ireturn, 1) := by decide +kernel
theorem dX6_firstFault_93 : decode cX6_firstFault 93 = .ok (.iload_n 3, 1) := by decide +kernel
theorem dX6_firstFault_94 : decode cX6_firstFault 94 = .ok (.aload_n 0, 1) := by decide +kernel
theorem dX6_firstFault_95 : decode cX6_firstFault 95 = .ok (.iload_n 3, 1) := by decide +kernel
theorem dX6_firstFault_96 : decode cX6_firstFault 96 = .ok (.invokevirtual 38, 3) := by decide +kernel
theorem dX6_firstFault_99 : decode cX6_firstFault 99 = .ok (.iadd, 1) := by decide +kernel
theorem dX6_firstFault_100 : decode cX6_firstFault 100 = .ok (.istore_n 3, 1) := by decide +kernel
theorem dX6_firstFault_101 : decode cX6_firstFault 101 = .ok (.iinc 4 1, 3) := by decide +kernel
theorem dX6_firstFault_104 : decode cX6_firstFault 104 = .ok (.goto (-83), 3) := by decide +kernel
theorem dX6_firstFault_107 : decode cX6_firstFault 107 = .ok (.bipush (-9), 2) := by decide +kernel
theorem dX6_firstFault_109 : decode cX6_firstFault 109 = .ok (.ireturn, 1) := by decide +kernel
theorem dX6_firstFaultOfPart_0 : decode cX6_firstFaultOfPart 0 = .ok (.aload_n 0, 1) := by decide +kernel
theorem dX6_firstFaultOfPart_1 : decode cX6_firstFaultOfPart 1 = .ok (.iload_n 1, 1) := by decide +kernel
theorem dX6_firstFaultOfPart_2 : decode cX6_firstFaultOfPart 2 = .ok (.invokevirtual 38, 3) := by decide +kernel
theorem dX6_firstFaultOfPart_5 : decode cX6_firstFaultOfPart 5 = .ok (.istore_n 2, 1) := by decide +kernel
theorem dX6_firstFaultOfPart_6 : decode cX6_firstFaultOfPart 6 = .ok (.iconst 1, 1) := by decide +kernel
theorem dX6_firstFaultOfPart_7 : decode cX6_firstFaultOfPart 7 = .ok (.istore_n 3, 1) := by decide +kernel
theorem dX6_firstFaultOfPart_8 : decode cX6_firstFaultOfPart 8 = .ok (.iload_n 3, 1) := by decide +kernel
theorem dX6_firstFaultOfPart_9 : decode cX6_firstFaultOfPart 9 = .ok (.iload_n 2, 1) := by decide +kernel
theorem dX6_firstFaultOfPart_10 : decode cX6_firstFaultOfPart 10 = .ok (.if_icmp .ge 59, 3) := by decide +kernel
theorem dX6_firstFaultOfPart_13 : decode cX6_firstFaultOfPart 13 = .ok (.iload_n 1, 1) := by decide +kernel
theorem dX6_firstFaultOfPart_14 : decode cX6_firstFaultOfPart 14 = .ok (.iload_n 3, 1) := by decide +kernel
theorem dX6_firstFaultOfPart_15 : decode cX6_firstFaultOfPart 15 = .ok (.iadd, 1) := by decide +kernel
theorem dX6_firstFaultOfPart_16 : decode cX6_firstFaultOfPart 16 = .ok (.aload_n 0, 1) := by decide +kernel
theorem dX6_firstFaultOfPart_17 : decode cX6_firstFaultOfPart 17 = .ok (.getfield 15, 3) := by decide +kernel
theorem dX6_firstFaultOfPart_20 : decode cX6_firstFaultOfPart 20 = .ok (.if_icmp .lt 8, 3) := by decide +kernel
theorem dX6_firstFaultOfPart_23 : decode cX6_firstFaultOfPart 23 = .ok (.aload_n 0, 1) := by decide +kernel
theorem dX6_firstFaultOfPart_24 : decode cX6_firstFaultOfPart 24 = .ok (.getfield 15, 3) := by decide +kernel
theorem dX6_firstFaultOfPart_27 : decode cX6_firstFaultOfPart 27 = .ok (.ireturn, 1) := by decide +kernel
theorem dX6_firstFaultOfPart_28 : decode cX6_firstFaultOfPart 28 = .ok (.aload_n 0, 1) := by decide +kernel
theorem dX6_firstFaultOfPart_29 : decode cX6_firstFaultOfPart 29 = .ok (.iload_n 1, 1) := by decide +kernel
theorem dX6_firstFaultOfPart_30 : decode cX6_firstFaultOfPart 30 = .ok (.iload_n 3, 1) := by decide +kernel
theorem dX6_firstFaultOfPart_31 : decode cX6_firstFaultOfPart 31 = .ok (.iadd, 1) := by decide +kernel
theorem dX6_firstFaultOfPart_32 : decode cX6_firstFaultOfPart 32 = .ok (.invokevirtual 41, 3) := by decide +kernel
theorem dX6_firstFaultOfPart_35 : decode cX6_firstFaultOfPart 35 = .ok (.istore 4, 2) := by decide +kernel
theorem dX6_firstFaultOfPart_37 : decode cX6_firstFaultOfPart 37 = .ok (.iload 4, 2) := by decide +kernel
theorem dX6_firstFaultOfPart_39 : decode cX6_firstFaultOfPart 39 = .ok (.aload_n 0, 1) := by decide +kernel
theorem dX6_firstFaultOfPart_40 : decode cX6_firstFaultOfPart 40 = .ok (.iload_n 1, 1) := by decide +kernel
theorem dX6_firstFaultOfPart_41 : decode cX6_firstFaultOfPart 41 = .ok (.iload_n 3, 1) := by decide +kernel
theorem dX6_firstFaultOfPart_42 : decode cX6_firstFaultOfPart 42 = .ok (.invokevirtual 44, 3) := by decide +kernel
theorem dX6_firstFaultOfPart_45 : decode cX6_firstFaultOfPart 45 = .ok (.if_icmp .lt 14, 3) := by decide +kernel
theorem dX6_firstFaultOfPart_48 : decode cX6_firstFaultOfPart 48 = .ok (.iload 4, 2) := by decide +kernel
theorem dX6_firstFaultOfPart_50 : decode cX6_firstFaultOfPart 50 = .ok (.aload_n 0, 1) := by decide +kernel
theorem dX6_firstFaultOfPart_51 : decode cX6_firstFaultOfPart 51 = .ok (.iload_n 1, 1) := by decide +kernel
theorem dX6_firstFaultOfPart_52 : decode cX6_firstFaultOfPart 52 = .ok (.iload_n 3, 1) := by decide +kernel
theorem dX6_firstFaultOfPart_53 : decode cX6_firstFaultOfPart 53 = .ok (.invokevirtual 48, 3) := by decide +kernel
theorem dX6_firstFaultOfPart_56 : decode cX6_firstFaultOfPart 56 = .ok (.if_icmp .le 7, 3) := by decide +kernel
theorem dX6_firstFaultOfPart_59 : decode cX6_firstFaultOfPart 59 = .ok (.iload_n 1, 1) := by decide +kernel
theorem dX6_firstFaultOfPart_60 : decode cX6_firstFaultOfPart 60 = .ok (.iload_n 3, 1) := by decide +kernel
theorem dX6_firstFaultOfPart_61 : decode cX6_firstFaultOfPart 61 = .ok (.iadd, 1) := by decide +kernel
theorem dX6_firstFaultOfPart_62 : decode cX6_firstFaultOfPart 62 = .ok (.ireturn, 1) := by decide +kernel
theorem dX6_firstFaultOfPart_63 : decode cX6_firstFaultOfPart 63 = .ok (.iinc 3 1, 3) := by decide +kernel
theorem dX6_firstFaultOfPart_66 : decode cX6_firstFaultOfPart 66 = .ok (.goto (-58), 3) := by decide +kernel
theorem dX6_firstFaultOfPart_69 : decode cX6_firstFaultOfPart 69 = .ok (.bipush (-9), 2) := by decide +kernel
theorem dX6_firstFaultOfPart_71 : decode cX6_firstFaultOfPart 71 = .ok (.ireturn, 1) := by decide +kernel
theorem dX6_leastFigure_0 : decode cX6_leastFigure 0 = .ok (.aload_n 0, 1) := by decide +kernel
theorem dX6_leastFigure_1 : decode cX6_leastFigure 1 = .ok (.iload_n 1, 1) := by decide +kernel
theorem dX6_leastFigure_2 : decode cX6_leastFigure 2 = .ok (.invokevirtual 31, 3) := by decide +kernel
theorem dX6_leastFigure_5 : decode cX6_leastFigure 5 = .ok (.ifCond .eq 12, 3) := by decide +kernel
theorem dX6_leastFigure_8 : decode cX6_leastFigure 8 = .ok (.iload_n 2, 1) := by decide +kernel
theorem dX6_leastFigure_9 : decode cX6_leastFigure 9 = .ok (.iconst 1, 1) := by decide +kernel
theorem dX6_leastFigure_10 : decode cX6_leastFigure 10 = .ok (.if_icmp .ne 7, 3) := by decide +kernel
theorem dX6_leastFigure_13 : decode cX6_leastFigure 13 = .ok (.iconst 1, 1) := by decide +kernel
theorem dX6_leastFigure_14 : decode cX6_leastFigure 14 = .ok (.goto 4, 3) := by decide +kernel
theorem dX6_leastFigure_17 : decode cX6_leastFigure 17 = .ok (.iconst 0, 1) := by decide +kernel
theorem dX6_leastFigure_18 : decode cX6_leastFigure 18 = .ok (.ireturn, 1) := by decide +kernel
theorem dX6_mostFigure_0 : decode cX6_mostFigure 0 = .ok (.aload_n 0, 1) := by decide +kernel
theorem dX6_mostFigure_1 : decode cX6_mostFigure 1 = .ok (.iload_n 1, 1) := by decide +kernel
theorem dX6_mostFigure_2 : decode cX6_mostFigure 2 = .ok (.invokevirtual 31, 3) := by decide +kernel
theorem dX6_mostFigure_5 : decode cX6_mostFigure 5 = .ok (.ifCond .ne 11, 3) := by decide +kernel
theorem dX6_mostFigure_8 : decode cX6_mostFigure 8 = .ok (.getstatic 51, 3) := by decide +kernel
theorem dX6_mostFigure_11 : decode cX6_mostFigure 11 = .ok (.iload_n 2, 1) := by decide +kernel
theorem dX6_mostFigure_12 : decode cX6_mostFigure 12 = .ok (.invokestatic 23, 3) := by decide +kernel
theorem dX6_mostFigure_15 : decode cX6_mostFigure 15 = .ok (.ireturn, 1) := by decide +kernel
theorem dX6_mostFigure_16 : decode cX6_mostFigure 16 = .ok (.iload_n 2, 1) := by decide +kernel
theorem dX6_mostFigure_17 : decode cX6_mostFigure 17 = .ok (.bipush 8, 2) := by decide +kernel
theorem dX6_mostFigure_19 : decode cX6_mostFigure 19 = .ok (.if_icmp .ne 21, 3) := by decide +kernel
theorem dX6_mostFigure_22 : decode cX6_mostFigure 22 = .ok (.aload_n 0, 1) := by decide +kernel
theorem dX6_mostFigure_23 : decode cX6_mostFigure 23 = .ok (.iload_n 1, 1) := by decide +kernel
theorem dX6_mostFigure_24 : decode cX6_mostFigure 24 = .ok (.iload_n 2, 1) := by decide +kernel
theorem dX6_mostFigure_25 : decode cX6_mostFigure 25 = .ok (.iadd, 1) := by decide +kernel
theorem dX6_mostFigure_26 : decode cX6_mostFigure 26 = .ok (.iconst 1, 1) := by decide +kernel
theorem dX6_mostFigure_27 : decode cX6_mostFigure 27 = .ok (.isub, 1) := by decide +kernel
theorem dX6_mostFigure_28 : decode cX6_mostFigure 28 = .ok (.invokevirtual 41, 3) := by decide +kernel
theorem dX6_mostFigure_31 : decode cX6_mostFigure 31 = .ok (.bipush 8, 2) := by decide +kernel
theorem dX6_mostFigure_33 : decode cX6_mostFigure 33 = .ok (.if_icmp .ne 7, 3) := by decide +kernel
theorem dX6_mostFigure_36 : decode cX6_mostFigure 36 = .ok (.iconst 1, 1) := by decide +kernel
theorem dX6_mostFigure_37 : decode cX6_mostFigure 37 = .ok (.goto 4, 3) := by decide +kernel
theorem dX6_mostFigure_40 : decode cX6_mostFigure 40 = .ok (.iconst 0, 1) := by decide +kernel
theorem dX6_mostFigure_41 : decode cX6_mostFigure 41 = .ok (.istore_n 3, 1) := by decide +kernel
theorem dX6_mostFigure_42 : decode cX6_mostFigure 42 = .ok (.iload_n 3, 1) := by decide +kernel
theorem dX6_mostFigure_43 : decode cX6_mostFigure 43 = .ok (.ifCond .eq 7, 3) := by decide +kernel
theorem dX6_mostFigure_46 : decode cX6_mostFigure 46 = .ok (.iconst 1, 1) := by decide +kernel
theorem dX6_mostFigure_47 : decode cX6_mostFigure 47 = .ok (.goto 10, 3) := by decide +kernel
theorem dX6_mostFigure_50 : decode cX6_mostFigure 50 = .ok (.getstatic 54, 3) := by decide +kernel
theorem dX6_mostFigure_53 : decode cX6_mostFigure 53 = .ok (.iload_n 2, 1) := by decide +kernel
theorem dX6_mostFigure_54 : decode cX6_mostFigure 54 = .ok (.invokestatic 23, 3) := by decide +kernel
theorem dX6_mostFigure_57 : decode cX6_mostFigure 57 = .ok (.ireturn, 1) := by decide +kernel
theorem dX7_init_0 : decode cX7_init 0 = .ok (.aload_n 0, 1) := by decide +kernel
theorem dX7_init_1 : decode cX7_init 1 = .ok (.invokespecial 3, 3) := by decide +kernel
theorem dX7_init_4 : decode cX7_init 4 = .ok (.aload_n 0, 1) := by decide +kernel
theorem dX7_init_5 : decode cX7_init 5 = .ok (.iconst 5, 1) := by decide +kernel
theorem dX7_init_6 : decode cX7_init 6 = .ok (.newarray .int, 2) := by decide +kernel
theorem dX7_init_8 : decode cX7_init 8 = .ok (.putfield 9, 3) := by decide +kernel
theorem dX7_init_11 : decode cX7_init 11 = .ok (.aload_n 0, 1) := by decide +kernel
theorem dX7_init_12 : decode cX7_init 12 = .ok (.getfield 9, 3) := by decide +kernel
theorem dX7_init_15 : decode cX7_init 15 = .ok (.bipush (-9), 2) := by decide +kernel
theorem dX7_init_17 : decode cX7_init 17 = .ok (.invokestatic 15, 3) := by decide +kernel
theorem dX7_init_20 : decode cX7_init 20 = .ok (.return_, 1) := by decide +kernel
theorem dX7_clear_0 : decode cX7_clear 0 = .ok (.aload_n 0, 1) := by decide +kernel
theorem dX7_clear_1 : decode cX7_clear 1 = .ok (.getfield 9, 3) := by decide +kernel
theorem dX7_clear_4 : decode cX7_clear 4 = .ok (.bipush (-9), 2) := by decide +kernel
theorem dX7_clear_6 : decode cX7_clear 6 = .ok (.invokestatic 15, 3) := by decide +kernel
theorem dX7_clear_9 : decode cX7_clear 9 = .ok (.return_, 1) := by decide +kernel
theorem dX7_copyFrom_0 : decode cX7_copyFrom 0 = .ok (.aload_n 1, 1) := by decide +kernel
theorem dX7_copyFrom_1 : decode cX7_copyFrom 1 = .ok (.getfield 9, 3) := by decide +kernel
theorem dX7_copyFrom_4 : decode cX7_copyFrom 4 = .ok (.iconst 0, 1) := by decide +kernel
theorem dX7_copyFrom_5 : decode cX7_copyFrom 5 = .ok (.aload_n 0, 1) := by decide +kernel
theorem dX7_copyFrom_6 : decode cX7_copyFrom 6 = .ok (.getfield 9, 3) := by decide +kernel
theorem dX7_copyFrom_9 : decode cX7_copyFrom 9 = .ok (.iconst 0, 1) := by decide +kernel
theorem dX7_copyFrom_10 : decode cX7_copyFrom 10 = .ok (.iconst 5, 1) := by decide +kernel
theorem dX7_copyFrom_11 : decode cX7_copyFrom 11 = .ok (.invokestatic 21, 3) := by decide +kernel
theorem dX7_copyFrom_14 : decode cX7_copyFrom 14 = .ok (.return_, 1) := by decide +kernel
theorem dX7_set_0 : decode cX7_set 0 = .ok (.aload_n 0, 1) := by decide +kernel
theorem dX7_set_1 : decode cX7_set 1 = .ok (.getfield 9, 3) := by decide +kernel
theorem dX7_set_4 : decode cX7_set 4 = .ok (.iload_n 1, 1) := by decide +kernel
theorem dX7_set_5 : decode cX7_set 5 = .ok (.iload_n 2, 1) := by decide +kernel
theorem dX7_set_6 : decode cX7_set 6 = .ok (.invokestatic 27, 3) := by decide +kernel
theorem dX7_set_9 : decode cX7_set 9 = .ok (.return_, 1) := by decide +kernel
theorem dX7_horseOf_0 : decode cX7_horseOf 0 = .ok (.iload_n 1, 1) := by decide +kernel
theorem dX7_horseOf_1 : decode cX7_horseOf 1 = .ok (.ifCond .lt 21, 3) := by decide +kernel
theorem dX7_horseOf_4 : decode cX7_horseOf 4 = .ok (.iload_n 1, 1) := by decide +kernel
theorem dX7_horseOf_5 : decode cX7_horseOf 5 = .ok (.aload_n 0, 1) := by decide +kernel
theorem dX7_horseOf_6 : decode cX7_horseOf 6 = .ok (.getfield 9, 3) := by decide +kernel
theorem dX7_horseOf_9 : decode cX7_horseOf 9 = .ok (.arraylength, 1) := by decide +kernel
theorem dX7_horseOf_10 : decode cX7_horseOf 10 = .ok (.if_icmp .ge 12, 3) := by decide +kernel
theorem dX7_horseOf_13 : decode cX7_horseOf 13 = .ok (.aload_n 0, 1) := by decide +kernel
theorem dX7_horseOf_14 : decode cX7_horseOf 14 = .ok (.getfield 9, 3) := by decide +kernel
theorem dX7_horseOf_17 : decode cX7_horseOf 17 = .ok (.iload_n 1, 1) := by decide +kernel
theorem dX7_horseOf_18 : decode cX7_horseOf 18 = .ok (.iaload, 1) := by decide +kernel
theorem dX7_horseOf_19 : decode cX7_horseOf 19 = .ok (.goto 5, 3) := by decide +kernel
theorem dX7_horseOf_22 : decode cX7_horseOf 22 = .ok (.bipush (-9), 2) := by decide +kernel
theorem dX7_horseOf_24 : decode cX7_horseOf 24 = .ok (.ireturn, 1) := by decide +kernel
theorem dX7_takenBits_0 : decode cX7_takenBits 0 = .ok (.iconst 0, 1) := by decide +kernel
theorem dX7_takenBits_1 : decode cX7_takenBits 1 = .ok (.istore_n 1, 1) := by decide +kernel
theorem dX7_takenBits_2 : decode cX7_takenBits 2 = .ok (.iconst 0, 1) := by decide +kernel
theorem dX7_takenBits_3 : decode cX7_takenBits 3 = .ok (.istore_n 2, 1) := by decide +kernel
theorem dX7_takenBits_4 : decode cX7_takenBits 4 = .ok (.iload_n 2, 1) := by decide +kernel
theorem dX7_takenBits_5 : decode cX7_takenBits 5 = .ok (.aload_n 0, 1) := by decide +kernel
theorem dX7_takenBits_6 : decode cX7_takenBits 6 = .ok (.getfield 9, 3) := by decide +kernel
theorem dX7_takenBits_9 : decode cX7_takenBits 9 = .ok (.arraylength, 1) := by decide +kernel
theorem dX7_takenBits_10 : decode cX7_takenBits 10 = .ok (.if_icmp .ge 26, 3) := by decide +kernel
theorem dX7_takenBits_13 : decode cX7_takenBits 13 = .ok (.aload_n 0, 1) := by decide +kernel
theorem dX7_takenBits_14 : decode cX7_takenBits 14 = .ok (.getfield 9, 3) := by decide +kernel
theorem dX7_takenBits_17 : decode cX7_takenBits 17 = .ok (.iload_n 2, 1) := by decide +kernel
theorem dX7_takenBits_18 : decode cX7_takenBits 18 = .ok (.iaload, 1) := by decide +kernel
theorem dX7_takenBits_19 : decode cX7_takenBits 19 = .ok (.bipush (-9), 2) := by decide +kernel
theorem dX7_takenBits_21 : decode cX7_takenBits 21 = .ok (.if_icmp .eq 9, 3) := by decide +kernel
theorem dX7_takenBits_24 : decode cX7_takenBits 24 = .ok (.iload_n 1, 1) := by decide +kernel
theorem dX7_takenBits_25 : decode cX7_takenBits 25 = .ok (.iconst 1, 1) := by decide +kernel
theorem dX7_takenBits_26 : decode cX7_takenBits 26 = .ok (.iload_n 2, 1) := by decide +kernel
theorem dX7_takenBits_27 : decode cX7_takenBits 27 = .ok (.ishl, 1) := by decide +kernel
theorem dX7_takenBits_28 : decode cX7_takenBits 28 = .ok (.ior, 1) := by decide +kernel
theorem dX7_takenBits_29 : decode cX7_takenBits 29 = .ok (.istore_n 1, 1) := by decide +kernel
theorem dX7_takenBits_30 : decode cX7_takenBits 30 = .ok (.iinc 2 1, 3) := by decide +kernel
theorem dX7_takenBits_33 : decode cX7_takenBits 33 = .ok (.goto (-29), 3) := by decide +kernel
theorem dX7_takenBits_36 : decode cX7_takenBits 36 = .ok (.iload_n 1, 1) := by decide +kernel
theorem dX7_takenBits_37 : decode cX7_takenBits 37 = .ok (.ireturn, 1) := by decide +kernel
theorem dX7_keptBits_0 : decode cX7_keptBits 0 = .ok (.iconst 0, 1) := by decide +kernel
theorem dX7_keptBits_1 : decode cX7_keptBits 1 = .ok (.istore_n 2, 1) := by decide +kernel
theorem dX7_keptBits_2 : decode cX7_keptBits 2 = .ok (.iconst 0, 1) := by decide +kernel
theorem dX7_keptBits_3 : decode cX7_keptBits 3 = .ok (.istore_n 3, 1) := by decide +kernel
theorem dX7_keptBits_4 : decode cX7_keptBits 4 = .ok (.iload_n 3, 1) := by decide +kernel
theorem dX7_keptBits_5 : decode cX7_keptBits 5 = .ok (.aload_n 0, 1) := by decide +kernel
theorem dX7_keptBits_6 : decode cX7_keptBits 6 = .ok (.getfield 9, 3) := by decide +kernel
theorem dX7_keptBits_9 : decode cX7_keptBits 9 = .ok (.arraylength, 1) := by decide +kernel
theorem dX7_keptBits_10 : decode cX7_keptBits 10 = .ok (.if_icmp .ge 25, 3) := by decide +kernel
theorem dX7_keptBits_13 : decode cX7_keptBits 13 = .ok (.aload_n 0, 1) := by decide +kernel
theorem dX7_keptBits_14 : decode cX7_keptBits 14 = .ok (.getfield 9, 3) := by decide +kernel
theorem dX7_keptBits_17 : decode cX7_keptBits 17 = .ok (.iload_n 3, 1) := by decide +kernel
theorem dX7_keptBits_18 : decode cX7_keptBits 18 = .ok (.iaload, 1) := by decide +kernel
theorem dX7_keptBits_19 : decode cX7_keptBits 19 = .ok (.iload_n 1, 1) := by decide +kernel
theorem dX7_keptBits_20 : decode cX7_keptBits 20 = .ok (.if_icmp .ne 9, 3) := by decide +kernel
theorem dX7_keptBits_23 : decode cX7_keptBits 23 = .ok (.iload_n 2, 1) := by decide +kernel
theorem dX7_keptBits_24 : decode cX7_keptBits 24 = .ok (.iconst 1, 1) := by decide +kernel
theorem dX7_keptBits_25 : decode cX7_keptBits 25 = .ok (.iload_n 3, 1) := by decide +kernel
theorem dX7_keptBits_26 : decode cX7_keptBits 26 = .ok (.ishl, 1) := by decide +kernel
theorem dX7_keptBits_27 : decode cX7_keptBits 27 = .ok (.ior, 1) := by decide +kernel
theorem dX7_keptBits_28 : decode cX7_keptBits 28 = .ok (.istore_n 2, 1) := by decide +kernel
theorem dX7_keptBits_29 : decode cX7_keptBits 29 = .ok (.iinc 3 1, 3) := by decide +kernel
theorem dX7_keptBits_32 : decode cX7_keptBits 32 = .ok (.goto (-28), 3) := by decide +kernel
theorem dX7_keptBits_35 : decode cX7_keptBits 35 = .ok (.iload_n 2, 1) := by decide +kernel
theorem dX7_keptBits_36 : decode cX7_keptBits 36 = .ok (.ireturn, 1) := by decide +kernel
theorem dX7_keptCount_0 : decode cX7_keptCount 0 = .ok (.aload_n 0, 1) := by decide +kernel
theorem dX7_keptCount_1 : decode cX7_keptCount 1 = .ok (.iload_n 1, 1) := by decide +kernel
theorem dX7_keptCount_2 : decode cX7_keptCount 2 = .ok (.invokevirtual 31, 3) := by decide +kernel
theorem dX7_keptCount_5 : decode cX7_keptCount 5 = .ok (.invokestatic 35, 3) := by decide +kernel
theorem dX7_keptCount_8 : decode cX7_keptCount 8 = .ok (.ireturn, 1) := by decide +kernel
theorem dX7_leastLiked_0 : decode cX7_leastLiked 0 = .ok (.bipush (-9), 2) := by decide +kernel
theorem dX7_leastLiked_2 : decode cX7_leastLiked 2 = .ok (.istore_n 3, 1) := by decide +kernel
theorem dX7_leastLiked_3 : decode cX7_leastLiked 3 = .ok (.iconst 0, 1) := by decide +kernel
theorem dX7_leastLiked_4 : decode cX7_leastLiked 4 = .ok (.istore 4, 2) := by decide +kernel
theorem dX7_leastLiked_6 : decode cX7_leastLiked 6 = .ok (.iload 4, 2) := by decide +kernel
theorem dX7_leastLiked_8 : decode cX7_leastLiked 8 = .ok (.aload_n 0, 1) := by decide +kernel
theorem dX7_leastLiked_9 : decode cX7_leastLiked 9 = .ok (.getfield 9, 3) := by decide +kernel
theorem dX7_leastLiked_12 : decode cX7_leastLiked 12 = .ok (.arraylength, 1) := by decide +kernel
theorem dX7_leastLiked_13 : decode cX7_leastLiked 13 = .ok (.if_icmp .ge 40, 3) := by decide +kernel
theorem dX7_leastLiked_16 : decode cX7_leastLiked 16 = .ok (.aload_n 0, 1) := by decide +kernel
theorem dX7_leastLiked_17 : decode cX7_leastLiked 17 = .ok (.getfield 9, 3) := by decide +kernel
theorem dX7_leastLiked_20 : decode cX7_leastLiked 20 = .ok (.iload 4, 2) := by decide +kernel
theorem dX7_leastLiked_22 : decode cX7_leastLiked 22 = .ok (.iaload, 1) := by decide +kernel
theorem dX7_leastLiked_23 : decode cX7_leastLiked 23 = .ok (.iload_n 1, 1) := by decide +kernel
theorem dX7_leastLiked_24 : decode cX7_leastLiked 24 = .ok (.if_icmp .ne 23, 3) := by decide +kernel
theorem dX7_leastLiked_27 : decode cX7_leastLiked 27 = .ok (.iload_n 3, 1) := by decide +kernel
theorem dX7_leastLiked_28 : decode cX7_leastLiked 28 = .ok (.bipush (-9), 2) := by decide +kernel
theorem dX7_leastLiked_30 : decode cX7_leastLiked 30 = .ok (.if_icmp .eq 14, 3) := by decide +kernel
theorem dX7_leastLiked_33 : decode cX7_leastLiked 33 = .ok (.aload_n 2, 1) := by decide +kernel
theorem dX7_leastLiked_34 : decode cX7_leastLiked 34 = .ok (.iload_n 1, 1) := by decide +kernel
theorem dX7_leastLiked_35 : decode cX7_leastLiked 35 = .ok (.iload_n 3, 1) := by decide +kernel
theorem dX7_leastLiked_36 : decode cX7_leastLiked 36 = .ok (.iload 4, 2) := by decide +kernel
theorem dX7_leastLiked_38 : decode cX7_leastLiked 38 = .ok (.invokevirtual 40, 3) := by decide +kernel
theorem dX7_leastLiked_41 : decode cX7_leastLiked 41 = .ok (.ifCond .eq 6, 3) := by decide +kernel
theorem dX7_leastLiked_44 : decode cX7_leastLiked 44 = .ok (.iload 4, 2) := by decide +kernel
theorem dX7_leastLiked_46 : decode cX7_leastLiked 46 = .ok (.istore_n 3, 1) := by decide +kernel
theorem dX7_leastLiked_47 : decode cX7_leastLiked 47 = .ok (.iinc 4 1, 3) := by decide +kernel
theorem dX7_leastLiked_50 : decode cX7_leastLiked 50 = .ok (.goto (-44), 3) := by decide +kernel
theorem dX7_leastLiked_53 : decode cX7_leastLiked 53 = .ok (.iload_n 3, 1) := by decide +kernel
theorem dX7_leastLiked_54 : decode cX7_leastLiked 54 = .ok (.ireturn, 1) := by decide +kernel
theorem dX7_leadTo_0 : decode cX7_leadTo 0 = .ok (.aload_n 3, 1) := by decide +kernel
theorem dX7_leadTo_1 : decode cX7_leadTo 1 = .ok (.iload_n 2, 1) := by decide +kernel
theorem dX7_leadTo_2 : decode cX7_leadTo 2 = .ok (.iload_n 1, 1) := by decide +kernel
theorem dX7_leadTo_3 : decode cX7_leadTo 3 = .ok (.invokevirtual 46, 3) := by decide +kernel
theorem dX7_leadTo_6 : decode cX7_leadTo 6 = .ok (.ifCond .ne 5, 3) := by decide +kernel
theorem dX7_leadTo_9 : decode cX7_leadTo 9 = .ok (.iconst 0, 1) := by decide +kernel
theorem dX7_leadTo_10 : decode cX7_leadTo 10 = .ok (.ireturn, 1) := by decide +kernel
theorem dX7_leadTo_11 : decode cX7_leadTo 11 = .ok (.aload_n 0, 1) := by decide +kernel
theorem dX7_leadTo_12 : decode cX7_leadTo 12 = .ok (.iload_n 2, 1) := by decide +kernel
theorem dX7_leadTo_13 : decode cX7_leadTo 13 = .ok (.invokevirtual 50, 3) := by decide +kernel
theorem dX7_leadTo_16 : decode cX7_leadTo 16 = .ok (.aload_n 3, 1) := by decide +kernel
theorem dX7_leadTo_17 : decode cX7_leadTo 17 = .ok (.getfield 53, 3) := by decide +kernel
theorem dX7_leadTo_20 : decode cX7_leadTo 20 = .ok (.getfield 57, 3) := by decide +kernel
theorem dX7_leadTo_23 : decode cX7_leadTo 23 = .ok (.iload_n 2, 1) := by decide +kernel
theorem dX7_leadTo_24 : decode cX7_leadTo 24 = .ok (.invokestatic 62, 3) := by decide +kernel
theorem dX7_leadTo_27 : decode cX7_leadTo 27 = .ok (.if_icmp .lt 39, 3) := by decide +kernel
theorem dX7_leadTo_30 : decode cX7_leadTo 30 = .ok (.aload_n 0, 1) := by decide +kernel
theorem dX7_leadTo_31 : decode cX7_leadTo 31 = .ok (.iload_n 2, 1) := by decide +kernel
theorem dX7_leadTo_32 : decode cX7_leadTo 32 = .ok (.aload_n 3, 1) := by decide +kernel
theorem dX7_leadTo_33 : decode cX7_leadTo 33 = .ok (.invokevirtual 66, 3) := by decide +kernel
theorem dX7_leadTo_36 : decode cX7_leadTo 36 = .ok (.istore 4, 2) := by decide +kernel
theorem dX7_leadTo_38 : decode cX7_leadTo 38 = .ok (.iload 4, 2) := by decide +kernel
theorem dX7_leadTo_40 : decode cX7_leadTo 40 = .ok (.bipush (-9), 2) := by decide +kernel
theorem dX7_leadTo_42 : decode cX7_leadTo 42 = .ok (.if_icmp .eq 14, 3) := by decide +kernel
theorem dX7_leadTo_45 : decode cX7_leadTo 45 = .ok (.aload_n 3, 1) := by decide +kernel
theorem dX7_leadTo_46 : decode cX7_leadTo 46 = .ok (.iload_n 2, 1) := by decide +kernel
theorem dX7_leadTo_47 : decode cX7_leadTo 47 = .ok (.iload_n 1, 1) := by decide +kernel
theorem dX7_leadTo_48 : decode cX7_leadTo 48 = .ok (.iload 4, 2) := by decide +kernel
theorem dX7_leadTo_50 : decode cX7_leadTo 50 = .ok (.invokevirtual 40, 3) := by decide +kernel
theorem dX7_leadTo_53 : decode cX7_leadTo 53 = .ok (.ifCond .ne 5, 3) := by decide +kernel
theorem dX7_leadTo_56 : decode cX7_leadTo 56 = .ok (.iconst 0, 1) := by decide +kernel
theorem dX7_leadTo_57 : decode cX7_leadTo 57 = .ok (.ireturn, 1) := by decide +kernel
theorem dX7_leadTo_58 : decode cX7_leadTo 58 = .ok (.aload_n 0, 1) := by decide +kernel
theorem dX7_leadTo_59 : decode cX7_leadTo 59 = .ok (.iload 4, 2) := by decide +kernel
theorem dX7_leadTo_61 : decode cX7_leadTo 61 = .ok (.bipush (-9), 2) := by decide +kernel
theorem dX7_leadTo_63 : decode cX7_leadTo 63 = .ok (.invokevirtual 70, 3) := by decide +kernel
theorem dX7_leadTo_66 : decode cX7_leadTo 66 = .ok (.aload_n 0, 1) := by decide +kernel
theorem dX7_leadTo_67 : decode cX7_leadTo 67 = .ok (.iload_n 1, 1) := by decide +kernel
theorem dX7_leadTo_68 : decode cX7_leadTo 68 = .ok (.iload_n 2, 1) := by decide +kernel
theorem dX7_leadTo_69 : decode cX7_leadTo 69 = .ok (.invokevirtual 70, 3) := by decide +kernel
theorem dX7_leadTo_72 : decode cX7_leadTo 72 = .ok (.iconst 1, 1) := by decide +kernel
theorem dX7_leadTo_73 : decode cX7_leadTo 73 = .ok (.ireturn, 1) := by decide +kernel
theorem dX7_boltsWith_0 : decode cX7_boltsWith 0 = .ok (.aload_n 3, 1) := by decide +kernel
theorem dX7_boltsWith_1 : decode cX7_boltsWith 1 = .ok (.iload_n 2, 1) := by decide +kernel
theorem dX7_boltsWith_2 : decode cX7_boltsWith 2 = .ok (.iload_n 1, 1) := by decide +kernel
theorem dX7_boltsWith_3 : decode cX7_boltsWith 3 = .ok (.invokevirtual 46, 3) := by decide +kernel
theorem dX7_boltsWith_6 : decode cX7_boltsWith 6 = .ok (.ifCond .eq 20, 3) := by decide +kernel
theorem dX7_boltsWith_9 : decode cX7_boltsWith 9 = .ok (.aload_n 3, 1) := by decide +kernel
theorem dX7_boltsWith_10 : decode cX7_boltsWith 10 = .ok (.getfield 53, 3) := by decide +kernel
theorem dX7_boltsWith_13 : decode cX7_boltsWith 13 = .ok (.iload_n 1, 1) := by decide +kernel
theorem dX7_boltsWith_14 : decode cX7_boltsWith 14 = .ok (.iload_n 2, 1) := by decide +kernel
theorem dX7_boltsWith_15 : decode cX7_boltsWith 15 = .ok (.aload_n 0, 1) := by decide +kernel
theorem dX7_boltsWith_16 : decode cX7_boltsWith 16 = .ok (.iload_n 1, 1) := by decide +kernel
theorem dX7_boltsWith_17 : decode cX7_boltsWith 17 = .ok (.invokevirtual 74, 3) := by decide +kernel
theorem dX7_boltsWith_20 : decode cX7_boltsWith 20 = .ok (.invokevirtual 77, 3) := by decide +kernel
theorem dX7_boltsWith_23 : decode cX7_boltsWith 23 = .ok (.ifCond .ne 5, 3) := by decide +kernel
theorem dX7_boltsWith_26 : decode cX7_boltsWith 26 = .ok (.iconst 0, 1) := by decide +kernel
theorem dX7_boltsWith_27 : decode cX7_boltsWith 27 = .ok (.ireturn, 1) := by decide +kernel
theorem dX7_boltsWith_28 : decode cX7_boltsWith 28 = .ok (.aload_n 0, 1) := by decide +kernel
theorem dX7_boltsWith_29 : decode cX7_boltsWith 29 = .ok (.iload_n 2, 1) := by decide +kernel
theorem dX7_boltsWith_30 : decode cX7_boltsWith 30 = .ok (.invokevirtual 50, 3) := by decide +kernel
theorem dX7_boltsWith_33 : decode cX7_boltsWith 33 = .ok (.aload_n 3, 1) := by decide +kernel
theorem dX7_boltsWith_34 : decode cX7_boltsWith 34 = .ok (.getfield 53, 3) := by decide +kernel
theorem dX7_boltsWith_37 : decode cX7_boltsWith 37 = .ok (.getfield 57, 3) := by decide +kernel
theorem dX7_boltsWith_40 : decode cX7_boltsWith 40 = .ok (.iload_n 2, 1) := by decide +kernel
theorem dX7_boltsWith_41 : decode cX7_boltsWith 41 = .ok (.invokestatic 62, 3) := by decide +kernel
theorem dX7_boltsWith_44 : decode cX7_boltsWith 44 = .ok (.if_icmp .ge 5, 3) := by decide +kernel
theorem dX7_boltsWith_47 : decode cX7_boltsWith 47 = .ok (.iconst 1, 1) := by decide +kernel
theorem dX7_boltsWith_48 : decode cX7_boltsWith 48 = .ok (.ireturn, 1) := by decide +kernel
theorem dX7_boltsWith_49 : decode cX7_boltsWith 49 = .ok (.aload_n 0, 1) := by decide +kernel
theorem dX7_boltsWith_50 : decode cX7_boltsWith 50 = .ok (.iload_n 2, 1) := by decide +kernel
theorem dX7_boltsWith_51 : decode cX7_boltsWith 51 = .ok (.aload_n 3, 1) := by decide +kernel
theorem dX7_boltsWith_52 : decode cX7_boltsWith 52 = .ok (.invokevirtual 66, 3) := by decide +kernel
theorem dX7_boltsWith_55 : decode cX7_boltsWith 55 = .ok (.istore 4, 2) := by decide +kernel
theorem dX7_boltsWith_57 : decode cX7_boltsWith 57 = .ok (.iload 4, 2) := by decide +kernel
theorem dX7_boltsWith_59 : decode cX7_boltsWith 59 = .ok (.bipush (-9), 2) := by decide +kernel
theorem dX7_boltsWith_61 : decode cX7_boltsWith 61 = .ok (.if_icmp .eq 18, 3) := by decide +kernel
theorem dX7_boltsWith_64 : decode cX7_boltsWith 64 = .ok (.aload_n 3, 1) := by decide +kernel
theorem dX7_boltsWith_65 : decode cX7_boltsWith 65 = .ok (.iload_n 2, 1) := by decide +kernel
theorem dX7_boltsWith_66 : decode cX7_boltsWith 66 = .ok (.iload_n 1, 1) := by decide +kernel
theorem dX7_boltsWith_67 : decode cX7_boltsWith 67 = .ok (.iload 4, 2) := by decide +kernel
theorem dX7_boltsWith_69 : decode cX7_boltsWith 69 = .ok (.invokevirtual 40, 3) := by decide +kernel
theorem dX7_boltsWith_72 : decode cX7_boltsWith 72 = .ok (.ifCond .eq 7, 3) := by decide +kernel
theorem dX7_boltsWith_75 : decode cX7_boltsWith 75 = .ok (.iconst 1, 1) := by decide +kernel
theorem dX7_boltsWith_76 : decode cX7_boltsWith 76 = .ok (.goto 4, 3) := by decide +kernel
theorem dX7_boltsWith_79 : decode cX7_boltsWith 79 = .ok (.iconst 0, 1) := by decide +kernel
theorem dX7_boltsWith_80 : decode cX7_boltsWith 80 = .ok (.ireturn, 1) := by decide +kernel
theorem dX8_init_0 : decode cX8_init 0 = .ok (.aload_n 0, 1) := by decide +kernel
theorem dX8_init_1 : decode cX8_init 1 = .ok (.invokespecial 3, 3) := by decide +kernel
theorem dX8_init_4 : decode cX8_init 4 = .ok (.aload_n 0, 1) := by decide +kernel
theorem dX8_init_5 : decode cX8_init 5 = .ok (.new 9, 3) := by decide +kernel
theorem dX8_init_8 : decode cX8_init 8 = .ok (.dup, 1) := by decide +kernel
theorem dX8_init_9 : decode cX8_init 9 = .ok (.invokespecial 11, 3) := by decide +kernel
theorem dX8_init_12 : decode cX8_init 12 = .ok (.putfield 12, 3) := by decide +kernel
theorem dX8_init_15 : decode cX8_init 15 = .ok (.aload_n 0, 1) := by decide +kernel
theorem dX8_init_16 : decode cX8_init 16 = .ok (.new 9, 3) := by decide +kernel
theorem dX8_init_19 : decode cX8_init 19 = .ok (.dup, 1) := by decide +kernel
theorem dX8_init_20 : decode cX8_init 20 = .ok (.invokespecial 11, 3) := by decide +kernel
theorem dX8_init_23 : decode cX8_init 23 = .ok (.putfield 18, 3) := by decide +kernel
theorem dX8_init_26 : decode cX8_init 26 = .ok (.aload_n 0, 1) := by decide +kernel
theorem dX8_init_27 : decode cX8_init 27 = .ok (.aload_n 1, 1) := by decide +kernel
theorem dX8_init_28 : decode cX8_init 28 = .ok (.putfield 21, 3) := by decide +kernel
theorem dX8_init_31 : decode cX8_init 31 = .ok (.aload_n 0, 1) := by decide +kernel
theorem dX8_init_32 : decode cX8_init 32 = .ok (.aload_n 2, 1) := by decide +kernel
theorem dX8_init_33 : decode cX8_init 33 = .ok (.putfield 25, 3) := by decide +kernel
theorem dX8_init_36 : decode cX8_init 36 = .ok (.return_, 1) := by decide +kernel
theorem dX8_findHolding_0 : decode cX8_findHolding 0 = .ok (.aload_n 0, 1) := by decide +kernel
theorem dX8_findHolding_1 : decode cX8_findHolding 1 = .ok (.iconst 0, 1) := by decide +kernel
theorem dX8_findHolding_2 : decode cX8_findHolding 2 = .ok (.putfield 29, 3) := by decide +kernel
theorem dX8_findHolding_5 : decode cX8_findHolding 5 = .ok (.aload_n 0, 1) := by decide +kernel
theorem dX8_findHolding_6 : decode cX8_findHolding 6 = .ok (.iconst 0, 1) := by decide +kernel
theorem dX8_findHolding_7 : decode cX8_findHolding 7 = .ok (.putfield 33, 3) := by decide +kernel
theorem dX8_findHolding_10 : decode cX8_findHolding 10 = .ok (.aload_n 0, 1) := by decide +kernel
theorem dX8_findHolding_11 : decode cX8_findHolding 11 = .ok (.getfield 18, 3) := by decide +kernel
theorem dX8_findHolding_14 : decode cX8_findHolding 14 = .ok (.invokevirtual 36, 3) := by decide +kernel
theorem dX8_findHolding_17 : decode cX8_findHolding 17 = .ok (.aload_n 0, 1) := by decide +kernel
theorem dX8_findHolding_18 : decode cX8_findHolding 18 = .ok (.invokevirtual 39, 3) := by decide +kernel
theorem dX8_findHolding_21 : decode cX8_findHolding 21 = .ok (.istore_n 1, 1) := by decide +kernel
theorem dX8_findHolding_22 : decode cX8_findHolding 22 = .ok (.iconst 0, 1) := by decide +kernel
theorem dX8_findHolding_23 : decode cX8_findHolding 23 = .ok (.istore_n 2, 1) := by decide +kernel
theorem dX8_findHolding_24 : decode cX8_findHolding 24 = .ok (.iload_n 2, 1) := by decide +kernel
theorem dX8_findHolding_25 : decode cX8_findHolding 25 = .ok (.iload_n 1, 1) := by decide +kernel
theorem dX8_findHolding_26 : decode cX8_findHolding 26 = .ok (.if_icmp .ge 39, 3) := by decide +kernel
theorem dX8_findHolding_29 : decode cX8_findHolding 29 = .ok (.aload_n 0, 1) := by decide +kernel
theorem dX8_findHolding_30 : decode cX8_findHolding 30 = .ok (.iload_n 2, 1) := by decide +kernel
theorem dX8_findHolding_31 : decode cX8_findHolding 31 = .ok (.invokevirtual 43, 3) := by decide +kernel
theorem dX8_findHolding_34 : decode cX8_findHolding 34 = .ok (.aload_n 0, 1) := by decide +kernel
theorem dX8_findHolding_35 : decode cX8_findHolding 35 = .ok (.invokevirtual 47, 3) := by decide +kernel
theorem dX8_findHolding_38 : decode cX8_findHolding 38 = .ok (.ifCond .eq 21, 3) := by decide +kernel
theorem dX8_findHolding_41 : decode cX8_findHolding 41 = .ok (.aload_n 0, 1) := by decide +kernel
theorem dX8_findHolding_42 : decode cX8_findHolding 42 = .ok (.invokevirtual 51, 3) := by decide +kernel
theorem dX8_findHolding_45 : decode cX8_findHolding 45 = .ok (.ifCond .eq 14, 3) := by decide +kernel
theorem dX8_findHolding_48 : decode cX8_findHolding 48 = .ok (.aload_n 0, 1) := by decide +kernel
theorem dX8_findHolding_49 : decode cX8_findHolding 49 = .ok (.invokevirtual 54, 3) := by decide +kernel
theorem dX8_findHolding_52 : decode cX8_findHolding 52 = .ok (.ifCond .eq 7, 3) := by decide +kernel
theorem dX8_findHolding_55 : decode cX8_findHolding 55 = .ok (.aload_n 0, 1) := by decide +kernel
theorem dX8_findHolding_56 : decode cX8_findHolding 56 = .ok (.invokevirtual 57, 3) := by decide +kernel
theorem dX8_findHolding_59 : decode cX8_findHolding 59 = .ok (.iinc 2 1, 3) := by decide +kernel
theorem dX8_findHolding_62 : decode cX8_findHolding 62 = .ok (.goto (-38), 3) := by decide +kernel
theorem dX8_findHolding_65 : decode cX8_findHolding 65 = .ok (.return_, 1) := by decide +kernel
theorem dX8_addHolding_0 : decode cX8_addHolding 0 = .ok (.aload_n 0, 1) := by decide +kernel
theorem dX8_addHolding_1 : decode cX8_addHolding 1 = .ok (.getfield 29, 3) := by decide +kernel
theorem dX8_addHolding_4 : decode cX8_addHolding 4 = .ok (.ifCond .ne 14, 3) := by decide +kernel
theorem dX8_addHolding_7 : decode cX8_addHolding 7 = .ok (.aload_n 0, 1) := by decide +kernel
theorem dX8_addHolding_8 : decode cX8_addHolding 8 = .ok (.getfield 18, 3) := by decide +kernel
theorem dX8_addHolding_11 : decode cX8_addHolding 11 = .ok (.aload_n 0, 1) := by decide +kernel
theorem dX8_addHolding_12 : decode cX8_addHolding 12 = .ok (.getfield 12, 3) := by decide +kernel
theorem dX8_addHolding_15 : decode cX8_addHolding 15 = .ok (.invokevirtual 60, 3) := by decide +kernel
theorem dX8_addHolding_18 : decode cX8_addHolding 18 = .ok (.aload_n 0, 1) := by decide +kernel
theorem dX8_addHolding_19 : decode cX8_addHolding 19 = .ok (.dup, 1) := by decide +kernel
theorem dX8_addHolding_20 : decode cX8_addHolding 20 = .ok (.getfield 29, 3) := by decide +kernel
theorem dX8_addHolding_23 : decode cX8_addHolding 23 = .ok (.iconst 1, 1) := by decide +kernel
theorem dX8_addHolding_24 : decode cX8_addHolding 24 = .ok (.iadd, 1) := by decide +kernel
theorem dX8_addHolding_25 : decode cX8_addHolding 25 = .ok (.putfield 29, 3) := by decide +kernel
theorem dX8_addHolding_28 : decode cX8_addHolding 28 = .ok (.iconst 0, 1) := by decide +kernel
theorem dX8_addHolding_29 : decode cX8_addHolding 29 = .ok (.istore_n 1, 1) := by decide +kernel
theorem dX8_addHolding_30 : decode cX8_addHolding 30 = .ok (.iload_n 1, 1) := by decide +kernel
theorem dX8_addHolding_31 : decode cX8_addHolding 31 = .ok (.aload_n 0, 1) := by decide +kernel
theorem dX8_addHolding_32 : decode cX8_addHolding 32 = .ok (.getfield 21, 3) := by decide +kernel
theorem dX8_addHolding_35 : decode cX8_addHolding 35 = .ok (.getfield 64, 3) := by decide +kernel
theorem dX8_addHolding_38 : decode cX8_addHolding 38 = .ok (.if_icmp .ge 40, 3) := by decide +kernel
theorem dX8_addHolding_41 : decode cX8_addHolding 41 = .ok (.aload_n 0, 1) := by decide +kernel
theorem dX8_addHolding_42 : decode cX8_addHolding 42 = .ok (.getfield 12, 3) := by decide +kernel
theorem dX8_addHolding_45 : decode cX8_addHolding 45 = .ok (.iload_n 1, 1) := by decide +kernel
theorem dX8_addHolding_46 : decode cX8_addHolding 46 = .ok (.invokevirtual 69, 3) := by decide +kernel
theorem dX8_addHolding_49 : decode cX8_addHolding 49 = .ok (.aload_n 0, 1) := by decide +kernel
theorem dX8_addHolding_50 : decode cX8_addHolding 50 = .ok (.getfield 18, 3) := by decide +kernel
theorem dX8_addHolding_53 : decode cX8_addHolding 53 = .ok (.iload_n 1, 1) := by decide +kernel
theorem dX8_addHolding_54 : decode cX8_addHolding 54 = .ok (.invokevirtual 69, 3) := by decide +kernel
theorem dX8_addHolding_57 : decode cX8_addHolding 57 = .ok (.if_icmp .eq 15, 3) := by decide +kernel
theorem dX8_addHolding_60 : decode cX8_addHolding 60 = .ok (.aload_n 0, 1) := by decide +kernel
theorem dX8_addHolding_61 : decode cX8_addHolding 61 = .ok (.dup, 1) := by decide +kernel
theorem dX8_addHolding_62 : decode cX8_addHolding 62 = .ok (.getfield 33, 3) := by decide +kernel
theorem dX8_addHolding_65 : decode cX8_addHolding 65 = .ok (.iconst 1, 1) := by decide +kernel
theorem dX8_addHolding_66 : decode cX8_addHolding 66 = .ok (.iload_n 1, 1) := by decide +kernel
theorem dX8_addHolding_67 : decode cX8_addHolding 67 = .ok (.ishl, 1) := by decide +kernel
theorem dX8_addHolding_68 : decode cX8_addHolding 68 = .ok (.ior, 1) := by decide +kernel
theorem dX8_addHolding_69 : decode cX8_addHolding 69 = .ok (.putfield 33, 3) := by decide +kernel
theorem dX8_addHolding_72 : decode cX8_addHolding 72 = .ok (.iinc 1 1, 3) := by decide +kernel
theorem dX8_addHolding_75 : decode cX8_addHolding 75 = .ok (.goto (-45), 3) := by decide +kernel
theorem dX8_addHolding_78 : decode cX8_addHolding 78 = .ok (.return_, 1) := by decide +kernel
theorem dX8_findRace_0 : decode cX8_findRace 0 = .ok (.aload_n 0, 1) := by decide +kernel
theorem dX8_findRace_1 : decode cX8_findRace 1 = .ok (.bipush (-9), 2) := by decide +kernel
theorem dX8_findRace_3 : decode cX8_findRace 3 = .ok (.putfield 73, 3) := by decide +kernel
theorem dX8_findRace_6 : decode cX8_findRace 6 = .ok (.aload_n 0, 1) := by decide +kernel
theorem dX8_findRace_7 : decode cX8_findRace 7 = .ok (.getfield 18, 3) := by decide +kernel
theorem dX8_findRace_10 : decode cX8_findRace 10 = .ok (.invokevirtual 36, 3) := by decide +kernel
theorem dX8_findRace_13 : decode cX8_findRace 13 = .ok (.aload_n 0, 1) := by decide +kernel
theorem dX8_findRace_14 : decode cX8_findRace 14 = .ok (.invokevirtual 39, 3) := by decide +kernel
theorem dX8_findRace_17 : decode cX8_findRace 17 = .ok (.istore_n 1, 1) := by decide +kernel
theorem dX8_findRace_18 : decode cX8_findRace 18 = .ok (.iconst 0, 1) := by decide +kernel
theorem dX8_findRace_19 : decode cX8_findRace 19 = .ok (.istore_n 2, 1) := by decide +kernel
theorem dX8_findRace_20 : decode cX8_findRace 20 = .ok (.iload_n 2, 1) := by decide +kernel
theorem dX8_findRace_21 : decode cX8_findRace 21 = .ok (.iload_n 1, 1) := by decide +kernel
theorem dX8_findRace_22 : decode cX8_findRace 22 = .ok (.if_icmp .ge 55, 3) := by decide +kernel
theorem dX8_findRace_25 : decode cX8_findRace 25 = .ok (.aload_n 0, 1) := by decide +kernel
theorem dX8_findRace_26 : decode cX8_findRace 26 = .ok (.iload_n 2, 1) := by decide +kernel
theorem dX8_findRace_27 : decode cX8_findRace 27 = .ok (.invokevirtual 43, 3) := by decide +kernel
theorem dX8_findRace_30 : decode cX8_findRace 30 = .ok (.aload_n 0, 1) := by decide +kernel
theorem dX8_findRace_31 : decode cX8_findRace 31 = .ok (.invokevirtual 47, 3) := by decide +kernel
theorem dX8_findRace_34 : decode cX8_findRace 34 = .ok (.ifCond .eq 10, 3) := by decide +kernel
theorem dX8_findRace_37 : decode cX8_findRace 37 = .ok (.aload_n 0, 1) := by decide +kernel
theorem dX8_findRace_38 : decode cX8_findRace 38 = .ok (.invokevirtual 76, 3) := by decide +kernel
theorem dX8_findRace_41 : decode cX8_findRace 41 = .ok (.goto 5, 3) := by decide +kernel
theorem dX8_findRace_44 : decode cX8_findRace 44 = .ok (.bipush (-9), 2) := by decide +kernel
theorem dX8_findRace_46 : decode cX8_findRace 46 = .ok (.istore_n 3, 1) := by decide +kernel
theorem dX8_findRace_47 : decode cX8_findRace 47 = .ok (.iload_n 3, 1) := by decide +kernel
theorem dX8_findRace_48 : decode cX8_findRace 48 = .ok (.aload_n 0, 1) := by decide +kernel
theorem dX8_findRace_49 : decode cX8_findRace 49 = .ok (.getfield 73, 3) := by decide +kernel
theorem dX8_findRace_52 : decode cX8_findRace 52 = .ok (.if_icmp .le 19, 3) := by decide +kernel
theorem dX8_findRace_55 : decode cX8_findRace 55 = .ok (.aload_n 0, 1) := by decide +kernel
theorem dX8_findRace_56 : decode cX8_findRace 56 = .ok (.iload_n 3, 1) := by decide +kernel
theorem dX8_findRace_57 : decode cX8_findRace 57 = .ok (.putfield 73, 3) := by decide +kernel
theorem dX8_findRace_60 : decode cX8_findRace 60 = .ok (.aload_n 0, 1) := by decide +kernel
theorem dX8_findRace_61 : decode cX8_findRace 61 = .ok (.getfield 18, 3) := by decide +kernel
theorem dX8_findRace_64 : decode cX8_findRace 64 = .ok (.aload_n 0, 1) := by decide +kernel
theorem dX8_findRace_65 : decode cX8_findRace 65 = .ok (.getfield 12, 3) := by decide +kernel
theorem dX8_findRace_68 : decode cX8_findRace 68 = .ok (.invokevirtual 60, 3) := by decide +kernel
theorem dX8_findRace_71 : decode cX8_findRace 71 = .ok (.iinc 2 1, 3) := by decide +kernel
theorem dX8_findRace_74 : decode cX8_findRace 74 = .ok (.goto (-54), 3) := by decide +kernel
theorem dX8_findRace_77 : decode cX8_findRace 77 = .ok (.return_, 1) := by decide +kernel
theorem dX8_numberOfWays_0 : decode cX8_numberOfWays 0 = .ok (.iconst 1, 1) := by decide +kernel
theorem dX8_numberOfWays_1 : decode cX8_numberOfWays 1 = .ok (.istore_n 1, 1) := by decide +kernel
theorem dX8_numberOfWays_2 : decode cX8_numberOfWays 2 = .ok (.iconst 0, 1) := by decide +kernel
theorem dX8_numberOfWays_3 : decode cX8_numberOfWays 3 = .ok (.istore_n 2, 1) := by decide +kernel
theorem dX8_numberOfWays_4 : decode cX8_numberOfWays 4 = .ok (.iload_n 2, 1) := by decide +kernel
theorem dX8_numberOfWays_5 : decode cX8_numberOfWays 5 = .ok (.aload_n 0, 1) := by decide +kernel
theorem dX8_numberOfWays_6 : decode cX8_numberOfWays 6 = .ok (.getfield 21, 3) := by decide +kernel
theorem dX8_numberOfWays_9 : decode cX8_numberOfWays 9 = .ok (.getfield 64, 3) := by decide +kernel
theorem dX8_numberOfWays_12 : decode cX8_numberOfWays 12 = .ok (.if_icmp .ge 21, 3) := by decide +kernel
theorem dX8_numberOfWays_15 : decode cX8_numberOfWays 15 = .ok (.iload_n 1, 1) := by decide +kernel
theorem dX8_numberOfWays_16 : decode cX8_numberOfWays 16 = .ok (.aload_n 0, 1) := by decide +kernel
theorem dX8_numberOfWays_17 : decode cX8_numberOfWays 17 = .ok (.getfield 21, 3) := by decide +kernel
theorem dX8_numberOfWays_20 : decode cX8_numberOfWays 20 = .ok (.getfield 79, 3) := by decide +kernel
theorem dX8_numberOfWays_23 : decode cX8_numberOfWays 23 = .ok (.iconst 1, 1) := by decide +kernel
theorem dX8_numberOfWays_24 : decode cX8_numberOfWays 24 = .ok (.iadd, 1) := by decide +kernel
theorem dX8_numberOfWays_25 : decode cX8_numberOfWays 25 = .ok (.imul, 1) := by decide +kernel
theorem dX8_numberOfWays_26 : decode cX8_numberOfWays 26 = .ok (.istore_n 1, 1) := by decide +kernel
theorem dX8_numberOfWays_27 : decode cX8_numberOfWays 27 = .ok (.iinc 2 1, 3) := by decide +kernel
theorem dX8_numberOfWays_30 : decode cX8_numberOfWays 30 = .ok (.goto (-26), 3) := by decide +kernel
theorem dX8_numberOfWays_33 : decode cX8_numberOfWays 33 = .ok (.iload_n 1, 1) := by decide +kernel
theorem dX8_numberOfWays_34 : decode cX8_numberOfWays 34 = .ok (.ireturn, 1) := by decide +kernel
theorem dX8_setWay_0 : decode cX8_setWay 0 = .ok (.iconst 1, 1) := by decide +kernel
theorem dX8_setWay_1 : decode cX8_setWay 1 = .ok (.aload_n 0, 1) := by decide +kernel
theorem dX8_setWay_2 : decode cX8_setWay 2 = .ok (.getfield 21, 3) := by decide +kernel
theorem dX8_setWay_5 : decode cX8_setWay 5 = .ok (.getfield 79, 3) := by decide +kernel
theorem dX8_setWay_8 : decode cX8_setWay 8 = .ok (.iconst 1, 1) := by decide +kernel
theorem dX8_setWay_9 : decode cX8_setWay 9 = .ok (.iadd, 1) := by decide +kernel
theorem dX8_setWay_10 : decode cX8_setWay 10 = .ok (.invokestatic 82, 3) := by decide +kernel
theorem dX8_setWay_13 : decode cX8_setWay 13 = .ok (.istore_n 2, 1) := by decide +kernel
theorem dX8_setWay_14 : decode cX8_setWay 14 = .ok (.iload_n 1, 1) := by decide +kernel
theorem dX8_setWay_15 : decode cX8_setWay 15 = .ok (.istore_n 3, 1) := by decide +kernel
theorem dX8_setWay_16 : decode cX8_setWay 16 = .ok (.aload_n 0, 1) := by decide +kernel
theorem dX8_setWay_17 : decode cX8_setWay 17 = .ok (.getfield 21, 3) := by decide +kernel
theorem dX8_setWay_20 : decode cX8_setWay 20 = .ok (.getfield 64, 3) := by decide +kernel
theorem dX8_setWay_23 : decode cX8_setWay 23 = .ok (.iconst 1, 1) := by decide +kernel
theorem dX8_setWay_24 : decode cX8_setWay 24 = .ok (.isub, 1) := by decide +kernel
theorem dX8_setWay_25 : decode cX8_setWay 25 = .ok (.istore 4, 2) := by decide +kernel
theorem dX8_setWay_27 : decode cX8_setWay 27 = .ok (.iload 4, 2) := by decide +kernel
theorem dX8_setWay_29 : decode cX8_setWay 29 = .ok (.ifCond .lt 46, 3) := by decide +kernel
theorem dX8_setWay_32 : decode cX8_setWay 32 = .ok (.iload_n 3, 1) := by decide +kernel
theorem dX8_setWay_33 : decode cX8_setWay 33 = .ok (.iload_n 2, 1) := by decide +kernel
theorem dX8_setWay_34 : decode cX8_setWay 34 = .ok (.irem, 1) := by decide +kernel
theorem dX8_setWay_35 : decode cX8_setWay 35 = .ok (.istore 5, 2) := by decide +kernel
theorem dX8_setWay_37 : decode cX8_setWay 37 = .ok (.iload_n 3, 1) := by decide +kernel
theorem dX8_setWay_38 : decode cX8_setWay 38 = .ok (.iload_n 2, 1) := by decide +kernel
theorem dX8_setWay_39 : decode cX8_setWay 39 = .ok (.idiv, 1) := by decide +kernel
theorem dX8_setWay_40 : decode cX8_setWay 40 = .ok (.istore_n 3, 1) := by decide +kernel
theorem dX8_setWay_41 : decode cX8_setWay 41 = .ok (.aload_n 0, 1) := by decide +kernel
theorem dX8_setWay_42 : decode cX8_setWay 42 = .ok (.getfield 12, 3) := by decide +kernel
theorem dX8_setWay_45 : decode cX8_setWay 45 = .ok (.iload 4, 2) := by decide +kernel
theorem dX8_setWay_47 : decode cX8_setWay 47 = .ok (.iload 5, 2) := by decide +kernel
theorem dX8_setWay_49 : decode cX8_setWay 49 = .ok (.aload_n 0, 1) := by decide +kernel
theorem dX8_setWay_50 : decode cX8_setWay 50 = .ok (.getfield 21, 3) := by decide +kernel
theorem dX8_setWay_53 : decode cX8_setWay 53 = .ok (.getfield 79, 3) := by decide +kernel
theorem dX8_setWay_56 : decode cX8_setWay 56 = .ok (.if_icmp .ge 8, 3) := by decide +kernel
theorem dX8_setWay_59 : decode cX8_setWay 59 = .ok (.iload 5, 2) := by decide +kernel
theorem dX8_setWay_61 : decode cX8_setWay 61 = .ok (.goto 5, 3) := by decide +kernel
theorem dX8_setWay_64 : decode cX8_setWay 64 = .ok (.bipush (-9), 2) := by decide +kernel
theorem dX8_setWay_66 : decode cX8_setWay 66 = .ok (.invokevirtual 88, 3) := by decide +kernel
theorem dX8_setWay_69 : decode cX8_setWay 69 = .ok (.iinc 4 (-1), 3) := by decide +kernel
theorem dX8_setWay_72 : decode cX8_setWay 72 = .ok (.goto (-45), 3) := by decide +kernel
theorem dX8_setWay_75 : decode cX8_setWay 75 = .ok (.return_, 1) := by decide +kernel
theorem dX8_isWay_0 : decode cX8_isWay 0 = .ok (.iconst 0, 1) := by decide +kernel
theorem dX8_isWay_1 : decode cX8_isWay 1 = .ok (.istore_n 1, 1) := by decide +kernel
theorem dX8_isWay_2 : decode cX8_isWay 2 = .ok (.iload_n 1, 1) := by decide +kernel
theorem dX8_isWay_3 : decode cX8_isWay 3 = .ok (.aload_n 0, 1) := by decide +kernel
theorem dX8_isWay_4 : decode cX8_isWay 4 = .ok (.getfield 21, 3) := by decide +kernel
theorem dX8_isWay_7 : decode cX8_isWay 7 = .ok (.getfield 79, 3) := by decide +kernel
theorem dX8_isWay_10 : decode cX8_isWay 10 = .ok (.if_icmp .ge 33, 3) := by decide +kernel
theorem dX8_isWay_13 : decode cX8_isWay 13 = .ok (.aload_n 0, 1) := by decide +kernel
theorem dX8_isWay_14 : decode cX8_isWay 14 = .ok (.getfield 12, 3) := by decide +kernel
theorem dX8_isWay_17 : decode cX8_isWay 17 = .ok (.iload_n 1, 1) := by decide +kernel
theorem dX8_isWay_18 : decode cX8_isWay 18 = .ok (.invokevirtual 92, 3) := by decide +kernel
theorem dX8_isWay_21 : decode cX8_isWay 21 = .ok (.aload_n 0, 1) := by decide +kernel
theorem dX8_isWay_22 : decode cX8_isWay 22 = .ok (.getfield 21, 3) := by decide +kernel
theorem dX8_isWay_25 : decode cX8_isWay 25 = .ok (.getfield 95, 3) := by decide +kernel
theorem dX8_isWay_28 : decode cX8_isWay 28 = .ok (.iload_n 1, 1) := by decide +kernel
theorem dX8_isWay_29 : decode cX8_isWay 29 = .ok (.invokestatic 99, 3) := by decide +kernel
theorem dX8_isWay_32 : decode cX8_isWay 32 = .ok (.if_icmp .le 5, 3) := by decide +kernel
theorem dX8_isWay_35 : decode cX8_isWay 35 = .ok (.iconst 0, 1) := by decide +kernel
theorem dX8_isWay_36 : decode cX8_isWay 36 = .ok (.ireturn, 1) := by decide +kernel
theorem dX8_isWay_37 : decode cX8_isWay 37 = .ok (.iinc 1 1, 3) := by decide +kernel
theorem dX8_isWay_40 : decode cX8_isWay 40 = .ok (.goto (-38), 3) := by decide +kernel
theorem dX8_isWay_43 : decode cX8_isWay 43 = .ok (.iconst 1, 1) := by decide +kernel
theorem dX8_isWay_44 : decode cX8_isWay 44 = .ok (.ireturn, 1) := by decide +kernel
theorem dX8_allEnough_0 : decode cX8_allEnough 0 = .ok (.iconst 0, 1) := by decide +kernel
theorem dX8_allEnough_1 : decode cX8_allEnough 1 = .ok (.istore_n 1, 1) := by decide +kernel
theorem dX8_allEnough_2 : decode cX8_allEnough 2 = .ok (.iload_n 1, 1) := by decide +kernel
theorem dX8_allEnough_3 : decode cX8_allEnough 3 = .ok (.aload_n 0, 1) := by decide +kernel
theorem dX8_allEnough_4 : decode cX8_allEnough 4 = .ok (.getfield 21, 3) := by decide +kernel
theorem dX8_allEnough_7 : decode cX8_allEnough 7 = .ok (.getfield 64, 3) := by decide +kernel
theorem dX8_allEnough_10 : decode cX8_allEnough 10 = .ok (.if_icmp .ge 38, 3) := by decide +kernel
theorem dX8_allEnough_13 : decode cX8_allEnough 13 = .ok (.aload_n 0, 1) := by decide +kernel
theorem dX8_allEnough_14 : decode cX8_allEnough 14 = .ok (.getfield 12, 3) := by decide +kernel
theorem dX8_allEnough_17 : decode cX8_allEnough 17 = .ok (.iload_n 1, 1) := by decide +kernel
theorem dX8_allEnough_18 : decode cX8_allEnough 18 = .ok (.invokevirtual 69, 3) := by decide +kernel
theorem dX8_allEnough_21 : decode cX8_allEnough 21 = .ok (.istore_n 2, 1) := by decide +kernel
theorem dX8_allEnough_22 : decode cX8_allEnough 22 = .ok (.iload_n 2, 1) := by decide +kernel
theorem dX8_allEnough_23 : decode cX8_allEnough 23 = .ok (.bipush (-9), 2) := by decide +kernel
theorem dX8_allEnough_25 : decode cX8_allEnough 25 = .ok (.if_icmp .eq 17, 3) := by decide +kernel
theorem dX8_allEnough_28 : decode cX8_allEnough 28 = .ok (.aload_n 0, 1) := by decide +kernel
theorem dX8_allEnough_29 : decode cX8_allEnough 29 = .ok (.getfield 25, 3) := by decide +kernel
theorem dX8_allEnough_32 : decode cX8_allEnough 32 = .ok (.iload_n 2, 1) := by decide +kernel
theorem dX8_allEnough_33 : decode cX8_allEnough 33 = .ok (.iload_n 1, 1) := by decide +kernel
theorem dX8_allEnough_34 : decode cX8_allEnough 34 = .ok (.invokevirtual 103, 3) := by decide +kernel
theorem dX8_allEnough_37 : decode cX8_allEnough 37 = .ok (.ifCond .ne 5, 3) := by decide +kernel
theorem dX8_allEnough_40 : decode cX8_allEnough 40 = .ok (.iconst 0, 1) := by decide +kernel
theorem dX8_allEnough_41 : decode cX8_allEnough 41 = .ok (.ireturn, 1) := by decide +kernel
theorem dX8_allEnough_42 : decode cX8_allEnough 42 = .ok (.iinc 1 1, 3) := by decide +kernel
theorem dX8_allEnough_45 : decode cX8_allEnough 45 = .ok (.goto (-43), 3) := by decide +kernel
theorem dX8_allEnough_48 : decode cX8_allEnough 48 = .ok (.iconst 1, 1) := by decide +kernel
theorem dX8_allEnough_49 : decode cX8_allEnough 49 = .ok (.ireturn, 1) := by decide +kernel
theorem dX8_nobodyBolts_0 : decode cX8_nobodyBolts 0 = .ok (.iconst 0, 1) := by decide +kernel
theorem dX8_nobodyBolts_1 : decode cX8_nobodyBolts 1 = .ok (.istore_n 1, 1) := by decide +kernel
theorem dX8_nobodyBolts_2 : decode cX8_nobodyBolts 2 = .ok (.iload_n 1, 1) := by decide +kernel
theorem dX8_nobodyBolts_3 : decode cX8_nobodyBolts 3 = .ok (.aload_n 0, 1) := by decide +kernel
theorem dX8_nobodyBolts_4 : decode cX8_nobodyBolts 4 = .ok (.getfield 21, 3) := by decide +kernel
theorem dX8_nobodyBolts_7 : decode cX8_nobodyBolts 7 = .ok (.getfield 64, 3) := by decide +kernel
theorem dX8_nobodyBolts_10 : decode cX8_nobodyBolts 10 = .ok (.if_icmp .ge 46, 3) := by decide +kernel
theorem dX8_nobodyBolts_13 : decode cX8_nobodyBolts 13 = .ok (.iconst 0, 1) := by decide +kernel
theorem dX8_nobodyBolts_14 : decode cX8_nobodyBolts 14 = .ok (.istore_n 2, 1) := by decide +kernel
theorem dX8_nobodyBolts_15 : decode cX8_nobodyBolts 15 = .ok (.iload_n 2, 1) := by decide +kernel
theorem dX8_nobodyBolts_16 : decode cX8_nobodyBolts 16 = .ok (.aload_n 0, 1) := by decide +kernel
theorem dX8_nobodyBolts_17 : decode cX8_nobodyBolts 17 = .ok (.getfield 21, 3) := by decide +kernel
theorem dX8_nobodyBolts_20 : decode cX8_nobodyBolts 20 = .ok (.getfield 79, 3) := by decide +kernel
theorem dX8_nobodyBolts_23 : decode cX8_nobodyBolts 23 = .ok (.if_icmp .ge 27, 3) := by decide +kernel
theorem dX8_nobodyBolts_26 : decode cX8_nobodyBolts 26 = .ok (.aload_n 0, 1) := by decide +kernel
theorem dX8_nobodyBolts_27 : decode cX8_nobodyBolts 27 = .ok (.getfield 12, 3) := by decide +kernel
theorem dX8_nobodyBolts_30 : decode cX8_nobodyBolts 30 = .ok (.iload_n 1, 1) := by decide +kernel
theorem dX8_nobodyBolts_31 : decode cX8_nobodyBolts 31 = .ok (.iload_n 2, 1) := by decide +kernel
theorem dX8_nobodyBolts_32 : decode cX8_nobodyBolts 32 = .ok (.aload_n 0, 1) := by decide +kernel
theorem dX8_nobodyBolts_33 : decode cX8_nobodyBolts 33 = .ok (.getfield 25, 3) := by decide +kernel
theorem dX8_nobodyBolts_36 : decode cX8_nobodyBolts 36 = .ok (.invokevirtual 109, 3) := by decide +kernel
theorem dX8_nobodyBolts_39 : decode cX8_nobodyBolts 39 = .ok (.ifCond .eq 5, 3) := by decide +kernel
theorem dX8_nobodyBolts_42 : decode cX8_nobodyBolts 42 = .ok (.iconst 0, 1) := by decide +kernel
theorem dX8_nobodyBolts_43 : decode cX8_nobodyBolts 43 = .ok (.ireturn, 1) := by decide +kernel
theorem dX8_nobodyBolts_44 : decode cX8_nobodyBolts 44 = .ok (.iinc 2 1, 3) := by decide +kernel
theorem dX8_nobodyBolts_47 : decode cX8_nobodyBolts 47 = .ok (.goto (-32), 3) := by decide +kernel
theorem dX8_nobodyBolts_50 : decode cX8_nobodyBolts 50 = .ok (.iinc 1 1, 3) := by decide +kernel
theorem dX8_nobodyBolts_53 : decode cX8_nobodyBolts 53 = .ok (.goto (-51), 3) := by decide +kernel
theorem dX8_nobodyBolts_56 : decode cX8_nobodyBolts 56 = .ok (.iconst 1, 1) := by decide +kernel
theorem dX8_nobodyBolts_57 : decode cX8_nobodyBolts 57 = .ok (.ireturn, 1) := by decide +kernel
theorem dX8_pointsOfWay_0 : decode cX8_pointsOfWay 0 = .ok (.iconst 0, 1) := by decide +kernel
theorem dX8_pointsOfWay_1 : decode cX8_pointsOfWay 1 = .ok (.istore_n 1, 1) := by decide +kernel
theorem dX8_pointsOfWay_2 : decode cX8_pointsOfWay 2 = .ok (.iconst 0, 1) := by decide +kernel
theorem dX8_pointsOfWay_3 : decode cX8_pointsOfWay 3 = .ok (.istore_n 2, 1) := by decide +kernel
theorem dX8_pointsOfWay_4 : decode cX8_pointsOfWay 4 = .ok (.iload_n 2, 1) := by decide +kernel
theorem dX8_pointsOfWay_5 : decode cX8_pointsOfWay 5 = .ok (.aload_n 0, 1) := by decide +kernel
theorem dX8_pointsOfWay_6 : decode cX8_pointsOfWay 6 = .ok (.getfield 21, 3) := by decide +kernel
theorem dX8_pointsOfWay_9 : decode cX8_pointsOfWay 9 = .ok (.getfield 64, 3) := by decide +kernel
theorem dX8_pointsOfWay_12 : decode cX8_pointsOfWay 12 = .ok (.if_icmp .ge 36, 3) := by decide +kernel
theorem dX8_pointsOfWay_15 : decode cX8_pointsOfWay 15 = .ok (.aload_n 0, 1) := by decide +kernel
theorem dX8_pointsOfWay_16 : decode cX8_pointsOfWay 16 = .ok (.getfield 12, 3) := by decide +kernel
theorem dX8_pointsOfWay_19 : decode cX8_pointsOfWay 19 = .ok (.iload_n 2, 1) := by decide +kernel
theorem dX8_pointsOfWay_20 : decode cX8_pointsOfWay 20 = .ok (.invokevirtual 69, 3) := by decide +kernel
theorem dX8_pointsOfWay_23 : decode cX8_pointsOfWay 23 = .ok (.istore_n 3, 1) := by decide +kernel
theorem dX8_pointsOfWay_24 : decode cX8_pointsOfWay 24 = .ok (.iload_n 3, 1) := by decide +kernel
theorem dX8_pointsOfWay_25 : decode cX8_pointsOfWay 25 = .ok (.bipush (-9), 2) := by decide +kernel
theorem dX8_pointsOfWay_27 : decode cX8_pointsOfWay 27 = .ok (.if_icmp .eq 15, 3) := by decide +kernel
theorem dX8_pointsOfWay_30 : decode cX8_pointsOfWay 30 = .ok (.iload_n 1, 1) := by decide +kernel
theorem dX8_pointsOfWay_31 : decode cX8_pointsOfWay 31 = .ok (.aload_n 0, 1) := by decide +kernel
theorem dX8_pointsOfWay_32 : decode cX8_pointsOfWay 32 = .ok (.getfield 25, 3) := by decide +kernel
theorem dX8_pointsOfWay_35 : decode cX8_pointsOfWay 35 = .ok (.iload_n 3, 1) := by decide +kernel
theorem dX8_pointsOfWay_36 : decode cX8_pointsOfWay 36 = .ok (.iload_n 2, 1) := by decide +kernel
theorem dX8_pointsOfWay_37 : decode cX8_pointsOfWay 37 = .ok (.invokevirtual 113, 3) := by decide +kernel
theorem dX8_pointsOfWay_40 : decode cX8_pointsOfWay 40 = .ok (.iadd, 1) := by decide +kernel
theorem dX8_pointsOfWay_41 : decode cX8_pointsOfWay 41 = .ok (.istore_n 1, 1) := by decide +kernel
theorem dX8_pointsOfWay_42 : decode cX8_pointsOfWay 42 = .ok (.iinc 2 1, 3) := by decide +kernel
theorem dX8_pointsOfWay_45 : decode cX8_pointsOfWay 45 = .ok (.goto (-41), 3) := by decide +kernel
theorem dX8_pointsOfWay_48 : decode cX8_pointsOfWay 48 = .ok (.iload_n 1, 1) := by decide +kernel
theorem dX8_pointsOfWay_49 : decode cX8_pointsOfWay 49 = .ok (.ireturn, 1) := by decide +kernel
theorem dX9_init_0 : decode cX9_init 0 = .ok (.aload_n 0, 1) := by decide +kernel
theorem dX9_init_1 : decode cX9_init 1 = .ok (.invokespecial 3, 3) := by decide +kernel
theorem dX9_init_4 : decode cX9_init 4 = .ok (.aload_n 0, 1) := by decide +kernel
theorem dX9_init_5 : decode cX9_init 5 = .ok (.bipush 20, 2) := by decide +kernel
theorem dX9_init_7 : decode cX9_init 7 = .ok (.newarray .int, 2) := by decide +kernel
theorem dX9_init_9 : decode cX9_init 9 = .ok (.putfield 9, 3) := by decide +kernel
theorem dX9_init_12 : decode cX9_init 12 = .ok (.aload_n 0, 1) := by decide +kernel
theorem dX9_init_13 : decode cX9_init 13 = .ok (.aload_n 1, 1) := by decide +kernel
theorem dX9_init_14 : decode cX9_init 14 = .ok (.putfield 15, 3) := by decide +kernel
theorem dX9_init_17 : decode cX9_init 17 = .ok (.return_, 1) := by decide +kernel
theorem dX9_weigh_0 : decode cX9_weigh 0 = .ok (.iconst 0, 1) := by decide +kernel
theorem dX9_weigh_1 : decode cX9_weigh 1 = .ok (.istore_n 2, 1) := by decide +kernel
theorem dX9_weigh_2 : decode cX9_weigh 2 = .ok (.iload_n 2, 1) := by decide +kernel
theorem dX9_weigh_3 : decode cX9_weigh 3 = .ok (.aload_n 0, 1) := by decide +kernel
theorem dX9_weigh_4 : decode cX9_weigh 4 = .ok (.getfield 15, 3) := by decide +kernel
theorem dX9_weigh_7 : decode cX9_weigh 7 = .ok (.getfield 19, 3) := by decide +kernel
theorem dX9_weigh_10 : decode cX9_weigh 10 = .ok (.if_icmp .ge 86, 3) := by decide +kernel
theorem dX9_weigh_13 : decode cX9_weigh 13 = .ok (.iconst 3, 1) := by decide +kernel
theorem dX9_weigh_14 : decode cX9_weigh 14 = .ok (.iload_n 2, 1) := by decide +kernel
theorem dX9_weigh_15 : decode cX9_weigh 15 = .ok (.imul, 1) := by decide +kernel
theorem dX9_weigh_16 : decode cX9_weigh 16 = .ok (.istore_n 3, 1) := by decide +kernel
theorem dX9_weigh_17 : decode cX9_weigh 17 = .ok (.aload_n 0, 1) := by decide +kernel
theorem dX9_weigh_18 : decode cX9_weigh 18 = .ok (.iload_n 2, 1) := by decide +kernel
theorem dX9_weigh_19 : decode cX9_weigh 19 = .ok (.aload_n 0, 1) := by decide +kernel
theorem dX9_weigh_20 : decode cX9_weigh 20 = .ok (.getfield 15, 3) := by decide +kernel
theorem dX9_weigh_23 : decode cX9_weigh 23 = .ok (.getfield 25, 3) := by decide +kernel
theorem dX9_weigh_26 : decode cX9_weigh 26 = .ok (.iload_n 3, 1) := by decide +kernel
theorem dX9_weigh_27 : decode cX9_weigh 27 = .ok (.invokestatic 28, 3) := by decide +kernel
theorem dX9_weigh_30 : decode cX9_weigh 30 = .ok (.aload_n 1, 1) := by decide +kernel
theorem dX9_weigh_31 : decode cX9_weigh 31 = .ok (.getfield 32, 3) := by decide +kernel
theorem dX9_weigh_34 : decode cX9_weigh 34 = .ok (.iload_n 3, 1) := by decide +kernel
theorem dX9_weigh_35 : decode cX9_weigh 35 = .ok (.invokestatic 28, 3) := by decide +kernel
theorem dX9_weigh_38 : decode cX9_weigh 38 = .ok (.iadd, 1) := by decide +kernel
theorem dX9_weigh_39 : decode cX9_weigh 39 = .ok (.aload_n 0, 1) := by decide +kernel
theorem dX9_weigh_40 : decode cX9_weigh 40 = .ok (.getfield 15, 3) := by decide +kernel
theorem dX9_weigh_43 : decode cX9_weigh 43 = .ok (.getfield 25, 3) := by decide +kernel
theorem dX9_weigh_46 : decode cX9_weigh 46 = .ok (.iload_n 3, 1) := by decide +kernel
theorem dX9_weigh_47 : decode cX9_weigh 47 = .ok (.iconst 1, 1) := by decide +kernel
theorem dX9_weigh_48 : decode cX9_weigh 48 = .ok (.iadd, 1) := by decide +kernel
theorem dX9_weigh_49 : decode cX9_weigh 49 = .ok (.invokestatic 28, 3) := by decide +kernel
theorem dX9_weigh_52 : decode cX9_weigh 52 = .ok (.aload_n 1, 1) := by decide +kernel
theorem dX9_weigh_53 : decode cX9_weigh 53 = .ok (.getfield 32, 3) := by decide +kernel
theorem dX9_weigh_56 : decode cX9_weigh 56 = .ok (.iload_n 3, 1) := by decide +kernel
theorem dX9_weigh_57 : decode cX9_weigh 57 = .ok (.iconst 1, 1) := by decide +kernel
theorem dX9_weigh_58 : decode cX9_weigh 58 = .ok (.iadd, 1) := by decide +kernel
theorem dX9_weigh_59 : decode cX9_weigh 59 = .ok (.invokestatic 28, 3) := by decide +kernel
theorem dX9_weigh_62 : decode cX9_weigh 62 = .ok (.iadd, 1) := by decide +kernel
theorem dX9_weigh_63 : decode cX9_weigh 63 = .ok (.aload_n 0, 1) := by decide +kernel
theorem dX9_weigh_64 : decode cX9_weigh 64 = .ok (.getfield 15, 3) := by decide +kernel
theorem dX9_weigh_67 : decode cX9_weigh 67 = .ok (.getfield 25, 3) := by decide +kernel
theorem dX9_weigh_70 : decode cX9_weigh 70 = .ok (.iload_n 3, 1) := by decide +kernel
theorem dX9_weigh_71 : decode cX9_weigh 71 = .ok (.iconst 2, 1) := by decide +kernel
theorem dX9_weigh_72 : decode cX9_weigh 72 = .ok (.iadd, 1) := by decide +kernel
theorem dX9_weigh_73 : decode cX9_weigh 73 = .ok (.invokestatic 28, 3) := by decide +kernel
theorem dX9_weigh_76 : decode cX9_weigh 76 = .ok (.aload_n 1, 1) := by decide +kernel
theorem dX9_weigh_77 : decode cX9_weigh 77 = .ok (.getfield 32, 3) := by decide +kernel
theorem dX9_weigh_80 : decode cX9_weigh 80 = .ok (.iload_n 3, 1) := by decide +kernel
theorem dX9_weigh_81 : decode cX9_weigh 81 = .ok (.iconst 2, 1) := by decide +kernel
theorem dX9_weigh_82 : decode cX9_weigh 82 = .ok (.iadd, 1) := by decide +kernel
theorem dX9_weigh_83 : decode cX9_weigh 83 = .ok (.invokestatic 28, 3) := by decide +kernel
theorem dX9_weigh_86 : decode cX9_weigh 86 = .ok (.iadd, 1) := by decide +kernel
theorem dX9_weigh_87 : decode cX9_weigh 87 = .ok (.invokevirtual 37, 3) := by decide +kernel
theorem dX9_weigh_90 : decode cX9_weigh 90 = .ok (.iinc 2 1, 3) := by decide +kernel
theorem dX9_weigh_93 : decode cX9_weigh 93 = .ok (.goto (-91), 3) := by decide +kernel
theorem dX9_weigh_96 : decode cX9_weigh 96 = .ok (.return_, 1) := by decide +kernel
theorem dX9_weighRider_0 : decode cX9_weighRider 0 = .ok (.iconst 0, 1) := by decide +kernel
theorem dX9_weighRider_1 : decode cX9_weighRider 1 = .ok (.istore 5, 2) := by decide +kernel
theorem dX9_weighRider_3 : decode cX9_weighRider 3 = .ok (.iload 5, 2) := by decide +kernel
theorem dX9_weighRider_5 : decode cX9_weighRider 5 = .ok (.aload_n 0, 1) := by decide +kernel
theorem dX9_weighRider_6 : decode cX9_weighRider 6 = .ok (.getfield 15, 3) := by decide +kernel
theorem dX9_weighRider_9 : decode cX9_weighRider 9 = .ok (.getfield 41, 3) := by decide +kernel
theorem dX9_weighRider_12 : decode cX9_weighRider 12 = .ok (.if_icmp .ge 77, 3) := by decide +kernel
theorem dX9_weighRider_15 : decode cX9_weighRider 15 = .ok (.iconst 3, 1) := by decide +kernel
theorem dX9_weighRider_16 : decode cX9_weighRider 16 = .ok (.iload 5, 2) := by decide +kernel
theorem dX9_weighRider_18 : decode cX9_weighRider 18 = .ok (.imul, 1) := by decide +kernel
theorem dX9_weighRider_19 : decode cX9_weighRider 19 = .ok (.istore 6, 2) := by decide +kernel
theorem dX9_weighRider_21 : decode cX9_weighRider 21 = .ok (.aload_n 0, 1) := by decide +kernel
theorem dX9_weighRider_22 : decode cX9_weighRider 22 = .ok (.getfield 9, 3) := by decide +kernel
theorem dX9_weighRider_25 : decode cX9_weighRider 25 = .ok (.iconst 5, 1) := by decide +kernel
theorem dX9_weighRider_26 : decode cX9_weighRider 26 = .ok (.iload 5, 2) := by decide +kernel
theorem dX9_weighRider_28 : decode cX9_weighRider 28 = .ok (.imul, 1) := by decide +kernel
theorem dX9_weighRider_29 : decode cX9_weighRider 29 = .ok (.iload_n 1, 1) := by decide +kernel
theorem dX9_weighRider_30 : decode cX9_weighRider 30 = .ok (.iadd, 1) := by decide +kernel
theorem dX9_weighRider_31 : decode cX9_weighRider 31 = .ok (.iload_n 2, 1) := by decide +kernel
theorem dX9_weighRider_32 : decode cX9_weighRider 32 = .ok (.aload_n 0, 1) := by decide +kernel
theorem dX9_weighRider_33 : decode cX9_weighRider 33 = .ok (.getfield 15, 3) := by decide +kernel
theorem dX9_weighRider_36 : decode cX9_weighRider 36 = .ok (.getfield 44, 3) := by decide +kernel
theorem dX9_weighRider_39 : decode cX9_weighRider 39 = .ok (.iload 6, 2) := by decide +kernel
theorem dX9_weighRider_41 : decode cX9_weighRider 41 = .ok (.invokestatic 28, 3) := by decide +kernel
theorem dX9_weighRider_44 : decode cX9_weighRider 44 = .ok (.imul, 1) := by decide +kernel
theorem dX9_weighRider_45 : decode cX9_weighRider 45 = .ok (.iload_n 3, 1) := by decide +kernel
theorem dX9_weighRider_46 : decode cX9_weighRider 46 = .ok (.aload_n 0, 1) := by decide +kernel
theorem dX9_weighRider_47 : decode cX9_weighRider 47 = .ok (.getfield 15, 3) := by decide +kernel
theorem dX9_weighRider_50 : decode cX9_weighRider 50 = .ok (.getfield 44, 3) := by decide +kernel
theorem dX9_weighRider_53 : decode cX9_weighRider 53 = .ok (.iload 6, 2) := by decide +kernel
theorem dX9_weighRider_55 : decode cX9_weighRider 55 = .ok (.iconst 1, 1) := by decide +kernel
theorem dX9_weighRider_56 : decode cX9_weighRider 56 = .ok (.iadd, 1) := by decide +kernel
theorem dX9_weighRider_57 : decode cX9_weighRider 57 = .ok (.invokestatic 28, 3) := by decide +kernel
theorem dX9_weighRider_60 : decode cX9_weighRider 60 = .ok (.imul, 1) := by decide +kernel
theorem dX9_weighRider_61 : decode cX9_weighRider 61 = .ok (.iadd, 1) := by decide +kernel
theorem dX9_weighRider_62 : decode cX9_weighRider 62 = .ok (.iload 4, 2) := by decide +kernel
theorem dX9_weighRider_64 : decode cX9_weighRider 64 = .ok (.aload_n 0, 1) := by decide +kernel
theorem dX9_weighRider_65 : decode cX9_weighRider 65 = .ok (.getfield 15, 3) := by decide +kernel
theorem dX9_weighRider_68 : decode cX9_weighRider 68 = .ok (.getfield 44, 3) := by decide +kernel
theorem dX9_weighRider_71 : decode cX9_weighRider 71 = .ok (.iload 6, 2) := by decide +kernel
theorem dX9_weighRider_73 : decode cX9_weighRider 73 = .ok (.iconst 2, 1) := by decide +kernel
theorem dX9_weighRider_74 : decode cX9_weighRider 74 = .ok (.iadd, 1) := by decide +kernel
theorem dX9_weighRider_75 : decode cX9_weighRider 75 = .ok (.invokestatic 28, 3) := by decide +kernel
theorem dX9_weighRider_78 : decode cX9_weighRider 78 = .ok (.imul, 1) := by decide +kernel
theorem dX9_weighRider_79 : decode cX9_weighRider 79 = .ok (.iadd, 1) := by decide +kernel
theorem dX9_weighRider_80 : decode cX9_weighRider 80 = .ok (.invokestatic 47, 3) := by decide +kernel
theorem dX9_weighRider_83 : decode cX9_weighRider 83 = .ok (.iinc 5 1, 3) := by decide +kernel
theorem dX9_weighRider_86 : decode cX9_weighRider 86 = .ok (.goto (-83), 3) := by decide +kernel
theorem dX9_weighRider_89 : decode cX9_weighRider 89 = .ok (.return_, 1) := by decide +kernel
theorem dX9_of_0 : decode cX9_of 0 = .ok (.aload_n 0, 1) := by decide +kernel
theorem dX9_of_1 : decode cX9_of 1 = .ok (.getfield 9, 3) := by decide +kernel
theorem dX9_of_4 : decode cX9_of 4 = .ok (.iconst 5, 1) := by decide +kernel
theorem dX9_of_5 : decode cX9_of 5 = .ok (.iload_n 1, 1) := by decide +kernel
theorem dX9_of_6 : decode cX9_of 6 = .ok (.imul, 1) := by decide +kernel
theorem dX9_of_7 : decode cX9_of 7 = .ok (.iload_n 2, 1) := by decide +kernel
theorem dX9_of_8 : decode cX9_of 8 = .ok (.iadd, 1) := by decide +kernel
theorem dX9_of_9 : decode cX9_of 9 = .ok (.invokestatic 28, 3) := by decide +kernel
theorem dX9_of_12 : decode cX9_of 12 = .ok (.ireturn, 1) := by decide +kernel
theorem dX9_enough_0 : decode cX9_enough 0 = .ok (.aload_n 0, 1) := by decide +kernel
theorem dX9_enough_1 : decode cX9_enough 1 = .ok (.iload_n 1, 1) := by decide +kernel
theorem dX9_enough_2 : decode cX9_enough 2 = .ok (.iload_n 2, 1) := by decide +kernel
theorem dX9_enough_3 : decode cX9_enough 3 = .ok (.invokevirtual 51, 3) := by decide +kernel
theorem dX9_enough_6 : decode cX9_enough 6 = .ok (.aload_n 0, 1) := by decide +kernel
theorem dX9_enough_7 : decode cX9_enough 7 = .ok (.getfield 15, 3) := by decide +kernel
theorem dX9_enough_10 : decode cX9_enough 10 = .ok (.getfield 55, 3) := by decide +kernel
theorem dX9_enough_13 : decode cX9_enough 13 = .ok (.iload_n 1, 1) := by decide +kernel
theorem dX9_enough_14 : decode cX9_enough 14 = .ok (.invokestatic 28, 3) := by decide +kernel
theorem dX9_enough_17 : decode cX9_enough 17 = .ok (.if_icmp .lt 7, 3) := by decide +kernel
theorem dX9_enough_20 : decode cX9_enough 20 = .ok (.iconst 1, 1) := by decide +kernel
theorem dX9_enough_21 : decode cX9_enough 21 = .ok (.goto 4, 3) := by decide +kernel
theorem dX9_enough_24 : decode cX9_enough 24 = .ok (.iconst 0, 1) := by decide +kernel
theorem dX9_enough_25 : decode cX9_enough 25 = .ok (.ireturn, 1) := by decide +kernel
theorem dX9_horseLikes_0 : decode cX9_horseLikes 0 = .ok (.iconst 5, 1) := by decide +kernel
theorem dX9_horseLikes_1 : decode cX9_horseLikes 1 = .ok (.iload_n 1, 1) := by decide +kernel
theorem dX9_horseLikes_2 : decode cX9_horseLikes 2 = .ok (.imul, 1) := by decide +kernel
theorem dX9_horseLikes_3 : decode cX9_horseLikes 3 = .ok (.istore 4, 2) := by decide +kernel
theorem dX9_horseLikes_5 : decode cX9_horseLikes 5 = .ok (.aload_n 0, 1) := by decide +kernel
theorem dX9_horseLikes_6 : decode cX9_horseLikes 6 = .ok (.getfield 9, 3) := by decide +kernel
theorem dX9_horseLikes_9 : decode cX9_horseLikes 9 = .ok (.iload 4, 2) := by decide +kernel
theorem dX9_horseLikes_11 : decode cX9_horseLikes 11 = .ok (.iload_n 2, 1) := by decide +kernel
theorem dX9_horseLikes_12 : decode cX9_horseLikes 12 = .ok (.iadd, 1) := by decide +kernel
theorem dX9_horseLikes_13 : decode cX9_horseLikes 13 = .ok (.invokestatic 28, 3) := by decide +kernel
theorem dX9_horseLikes_16 : decode cX9_horseLikes 16 = .ok (.aload_n 0, 1) := by decide +kernel
theorem dX9_horseLikes_17 : decode cX9_horseLikes 17 = .ok (.getfield 9, 3) := by decide +kernel
theorem dX9_horseLikes_20 : decode cX9_horseLikes 20 = .ok (.iload 4, 2) := by decide +kernel
theorem dX9_horseLikes_22 : decode cX9_horseLikes 22 = .ok (.iload_n 3, 1) := by decide +kernel
theorem dX9_horseLikes_23 : decode cX9_horseLikes 23 = .ok (.iadd, 1) := by decide +kernel
theorem dX9_horseLikes_24 : decode cX9_horseLikes 24 = .ok (.invokestatic 28, 3) := by decide +kernel
theorem dX9_horseLikes_27 : decode cX9_horseLikes 27 = .ok (.isub, 1) := by decide +kernel
theorem dX9_horseLikes_28 : decode cX9_horseLikes 28 = .ok (.istore 5, 2) := by decide +kernel
theorem dX9_horseLikes_30 : decode cX9_horseLikes 30 = .ok (.iload 5, 2) := by decide +kernel
theorem dX9_horseLikes_32 : decode cX9_horseLikes 32 = .ok (.ifCond .gt 13, 3) := by decide +kernel
theorem dX9_horseLikes_35 : decode cX9_horseLikes 35 = .ok (.iload 5, 2) := by decide +kernel
theorem dX9_horseLikes_37 : decode cX9_horseLikes 37 = .ok (.ifCond .ne 12, 3) := by decide +kernel
theorem dX9_horseLikes_40 : decode cX9_horseLikes 40 = .ok (.iload_n 2, 1) := by decide +kernel
theorem dX9_horseLikes_41 : decode cX9_horseLikes 41 = .ok (.iload_n 3, 1) := by decide +kernel
theorem dX9_horseLikes_42 : decode cX9_horseLikes 42 = .ok (.if_icmp .ge 7, 3) := by decide +kernel
theorem dX9_horseLikes_45 : decode cX9_horseLikes 45 = .ok (.iconst 1, 1) := by decide +kernel
theorem dX9_horseLikes_46 : decode cX9_horseLikes 46 = .ok (.goto 4, 3) := by decide +kernel
theorem dX9_horseLikes_49 : decode cX9_horseLikes 49 = .ok (.iconst 0, 1) := by decide +kernel
theorem dX9_horseLikes_50 : decode cX9_horseLikes 50 = .ok (.ireturn, 1) := by decide +kernel
theorem dX9_points_0 : decode cX9_points 0 = .ok (.aload_n 0, 1) := by decide +kernel
theorem dX9_points_1 : decode cX9_points 1 = .ok (.getfield 15, 3) := by decide +kernel
theorem dX9_points_4 : decode cX9_points 4 = .ok (.getfield 58, 3) := by decide +kernel
theorem dX9_points_7 : decode cX9_points 7 = .ok (.iload_n 1, 1) := by decide +kernel
theorem dX9_points_8 : decode cX9_points 8 = .ok (.invokestatic 28, 3) := by decide +kernel
theorem dX9_points_11 : decode cX9_points 11 = .ok (.aload_n 0, 1) := by decide +kernel
theorem dX9_points_12 : decode cX9_points 12 = .ok (.iload_n 1, 1) := by decide +kernel
theorem dX9_points_13 : decode cX9_points 13 = .ok (.iload_n 2, 1) := by decide +kernel
theorem dX9_points_14 : decode cX9_points 14 = .ok (.invokevirtual 51, 3) := by decide +kernel
theorem dX9_points_17 : decode cX9_points 17 = .ok (.bipush 10, 2) := by decide +kernel
theorem dX9_points_19 : decode cX9_points 19 = .ok (.idiv, 1) := by decide +kernel
theorem dX9_points_20 : decode cX9_points 20 = .ok (.iadd, 1) := by decide +kernel
theorem dX9_points_21 : decode cX9_points 21 = .ok (.ireturn, 1) := by decide +kernel
theorem dX10_init_0 : decode cX10_init 0 = .ok (.aload_n 0, 1) := by decide +kernel
theorem dX10_init_1 : decode cX10_init 1 = .ok (.invokespecial 3, 3) := by decide +kernel
theorem dX10_init_4 : decode cX10_init 4 = .ok (.aload_n 0, 1) := by decide +kernel
theorem dX10_init_5 : decode cX10_init 5 = .ok (.new 9, 3) := by decide +kernel
theorem dX10_init_8 : decode cX10_init 8 = .ok (.dup, 1) := by decide +kernel
theorem dX10_init_9 : decode cX10_init 9 = .ok (.invokespecial 11, 3) := by decide +kernel
theorem dX10_init_12 : decode cX10_init 12 = .ok (.putfield 12, 3) := by decide +kernel
theorem dX10_init_15 : decode cX10_init 15 = .ok (.aload_n 0, 1) := by decide +kernel
theorem dX10_init_16 : decode cX10_init 16 = .ok (.new 16, 3) := by decide +kernel
theorem dX10_init_19 : decode cX10_init 19 = .ok (.dup, 1) := by decide +kernel
theorem dX10_init_20 : decode cX10_init 20 = .ok (.invokespecial 18, 3) := by decide +kernel
theorem dX10_init_23 : decode cX10_init 23 = .ok (.putfield 19, 3) := by decide +kernel
theorem dX10_init_26 : decode cX10_init 26 = .ok (.aload_n 0, 1) := by decide +kernel
theorem dX10_init_27 : decode cX10_init 27 = .ok (.new 23, 3) := by decide +kernel
theorem dX10_init_30 : decode cX10_init 30 = .ok (.dup, 1) := by decide +kernel
theorem dX10_init_31 : decode cX10_init 31 = .ok (.invokespecial 25, 3) := by decide +kernel
theorem dX10_init_34 : decode cX10_init 34 = .ok (.putfield 26, 3) := by decide +kernel
theorem dX10_init_37 : decode cX10_init 37 = .ok (.aload_n 0, 1) := by decide +kernel
theorem dX10_init_38 : decode cX10_init 38 = .ok (.new 30, 3) := by decide +kernel
theorem dX10_init_41 : decode cX10_init 41 = .ok (.dup, 1) := by decide +kernel
theorem dX10_init_42 : decode cX10_init 42 = .ok (.invokespecial 32, 3) := by decide +kernel
theorem dX10_init_45 : decode cX10_init 45 = .ok (.putfield 33, 3) := by decide +kernel
theorem dX10_init_48 : decode cX10_init 48 = .ok (.aload_n 0, 1) := by decide +kernel
theorem dX10_init_49 : decode cX10_init 49 = .ok (.iconst 2, 1) := by decide +kernel
theorem dX10_init_50 : decode cX10_init 50 = .ok (.anewarray 23, 3) := by decide +kernel
theorem dX10_init_53 : decode cX10_init 53 = .ok (.putfield 37, 3) := by decide +kernel
theorem dX10_init_56 : decode cX10_init 56 = .ok (.iconst 0, 1) := by decide +kernel
theorem dX10_init_57 : decode cX10_init 57 = .ok (.istore_n 1, 1) := by decide +kernel
theorem dX10_init_58 : decode cX10_init 58 = .ok (.iload_n 1, 1) := by decide +kernel
theorem dX10_init_59 : decode cX10_init 59 = .ok (.aload_n 0, 1) := by decide +kernel
theorem dX10_init_60 : decode cX10_init 60 = .ok (.getfield 37, 3) := by decide +kernel
theorem dX10_init_63 : decode cX10_init 63 = .ok (.arraylength, 1) := by decide +kernel
theorem dX10_init_64 : decode cX10_init 64 = .ok (.if_icmp .ge 22, 3) := by decide +kernel
theorem dX10_init_67 : decode cX10_init 67 = .ok (.aload_n 0, 1) := by decide +kernel
theorem dX10_init_68 : decode cX10_init 68 = .ok (.getfield 37, 3) := by decide +kernel
theorem dX10_init_71 : decode cX10_init 71 = .ok (.iload_n 1, 1) := by decide +kernel
theorem dX10_init_72 : decode cX10_init 72 = .ok (.new 23, 3) := by decide +kernel
theorem dX10_init_75 : decode cX10_init 75 = .ok (.dup, 1) := by decide +kernel
theorem dX10_init_76 : decode cX10_init 76 = .ok (.invokespecial 25, 3) := by decide +kernel
theorem dX10_init_79 : decode cX10_init 79 = .ok (.aastore, 1) := by decide +kernel
theorem dX10_init_80 : decode cX10_init 80 = .ok (.iinc 1 1, 3) := by decide +kernel
theorem dX10_init_83 : decode cX10_init 83 = .ok (.goto (-25), 3) := by decide +kernel
theorem dX10_init_86 : decode cX10_init 86 = .ok (.aload_n 0, 1) := by decide +kernel
theorem dX10_init_87 : decode cX10_init 87 = .ok (.new 41, 3) := by decide +kernel
theorem dX10_init_90 : decode cX10_init 90 = .ok (.dup, 1) := by decide +kernel
theorem dX10_init_91 : decode cX10_init 91 = .ok (.invokespecial 43, 3) := by decide +kernel
theorem dX10_init_94 : decode cX10_init 94 = .ok (.putfield 44, 3) := by decide +kernel
theorem dX10_init_97 : decode cX10_init 97 = .ok (.aload_n 0, 1) := by decide +kernel
theorem dX10_init_98 : decode cX10_init 98 = .ok (.new 48, 3) := by decide +kernel
theorem dX10_init_101 : decode cX10_init 101 = .ok (.dup, 1) := by decide +kernel
theorem dX10_init_102 : decode cX10_init 102 = .ok (.aload_n 0, 1) := by decide +kernel
theorem dX10_init_103 : decode cX10_init 103 = .ok (.getfield 19, 3) := by decide +kernel
theorem dX10_init_106 : decode cX10_init 106 = .ok (.invokespecial 50, 3) := by decide +kernel
theorem dX10_init_109 : decode cX10_init 109 = .ok (.putfield 53, 3) := by decide +kernel
theorem dX10_init_112 : decode cX10_init 112 = .ok (.aload_n 0, 1) := by decide +kernel
theorem dX10_init_113 : decode cX10_init 113 = .ok (.new 57, 3) := by decide +kernel
theorem dX10_init_116 : decode cX10_init 116 = .ok (.dup, 1) := by decide +kernel
theorem dX10_init_117 : decode cX10_init 117 = .ok (.aload_n 0, 1) := by decide +kernel
theorem dX10_init_118 : decode cX10_init 118 = .ok (.getfield 19, 3) := by decide +kernel
theorem dX10_init_121 : decode cX10_init 121 = .ok (.aload_n 0, 1) := by decide +kernel
theorem dX10_init_122 : decode cX10_init 122 = .ok (.getfield 53, 3) := by decide +kernel
theorem dX10_init_125 : decode cX10_init 125 = .ok (.invokespecial 59, 3) := by decide +kernel
theorem dX10_init_128 : decode cX10_init 128 = .ok (.putfield 62, 3) := by decide +kernel
theorem dX10_init_131 : decode cX10_init 131 = .ok (.aload_n 0, 1) := by decide +kernel
theorem dX10_init_132 : decode cX10_init 132 = .ok (.new 66, 3) := by decide +kernel
theorem dX10_init_135 : decode cX10_init 135 = .ok (.dup, 1) := by decide +kernel
theorem dX10_init_136 : decode cX10_init 136 = .ok (.aload_n 0, 1) := by decide +kernel
theorem dX10_init_137 : decode cX10_init 137 = .ok (.getfield 19, 3) := by decide +kernel
theorem dX10_init_140 : decode cX10_init 140 = .ok (.aload_n 0, 1) := by decide +kernel
theorem dX10_init_141 : decode cX10_init 141 = .ok (.getfield 53, 3) := by decide +kernel
theorem dX10_init_144 : decode cX10_init 144 = .ok (.invokespecial 68, 3) := by decide +kernel
theorem dX10_init_147 : decode cX10_init 147 = .ok (.putfield 69, 3) := by decide +kernel
theorem dX10_init_150 : decode cX10_init 150 = .ok (.aload_n 0, 1) := by decide +kernel
theorem dX10_init_151 : decode cX10_init 151 = .ok (.new 73, 3) := by decide +kernel
theorem dX10_init_154 : decode cX10_init 154 = .ok (.dup, 1) := by decide +kernel
theorem dX10_init_155 : decode cX10_init 155 = .ok (.invokespecial 75, 3) := by decide +kernel
theorem dX10_init_158 : decode cX10_init 158 = .ok (.putfield 76, 3) := by decide +kernel
theorem dX10_init_161 : decode cX10_init 161 = .ok (.aload_n 0, 1) := by decide +kernel
theorem dX10_init_162 : decode cX10_init 162 = .ok (.new 80, 3) := by decide +kernel
theorem dX10_init_165 : decode cX10_init 165 = .ok (.dup, 1) := by decide +kernel
theorem dX10_init_166 : decode cX10_init 166 = .ok (.invokespecial 82, 3) := by decide +kernel
theorem dX10_init_169 : decode cX10_init 169 = .ok (.putfield 83, 3) := by decide +kernel
theorem dX10_init_172 : decode cX10_init 172 = .ok (.aload_n 0, 1) := by decide +kernel
theorem dX10_init_173 : decode cX10_init 173 = .ok (.lconst 0, 1) := by decide +kernel
theorem dX10_init_174 : decode cX10_init 174 = .ok (.putfield 87, 3) := by decide +kernel
theorem dX10_init_177 : decode cX10_init 177 = .ok (.return_, 1) := by decide +kernel
theorem dX10_write_0 : decode cX10_write 0 = .ok (.iload_n 1, 1) := by decide +kernel
theorem dX10_write_1 : decode cX10_write 1 = .ok (.ifCond .lt 10, 3) := by decide +kernel
theorem dX10_write_4 : decode cX10_write 4 = .ok (.iload_n 1, 1) := by decide +kernel
theorem dX10_write_5 : decode cX10_write 5 = .ok (.sipush 255, 3) := by decide +kernel
theorem dX10_write_8 : decode cX10_write 8 = .ok (.if_icmp .le 6, 3) := by decide +kernel
theorem dX10_write_11 : decode cX10_write 11 = .ok (.bipush (-2), 2) := by decide +kernel
theorem dX10_write_13 : decode cX10_write 13 = .ok (.ireturn, 1) := by decide +kernel
theorem dX10_write_14 : decode cX10_write 14 = .ok (.aload_n 0, 1) := by decide +kernel
theorem dX10_write_15 : decode cX10_write 15 = .ok (.getfield 12, 3) := by decide +kernel
theorem dX10_write_18 : decode cX10_write 18 = .ok (.iload_n 1, 1) := by decide +kernel
theorem dX10_write_19 : decode cX10_write 19 = .ok (.invokevirtual 91, 3) := by decide +kernel
theorem dX10_write_22 : decode cX10_write 22 = .ok (.ifCond .eq 13, 3) := by decide +kernel
theorem dX10_write_25 : decode cX10_write 25 = .ok (.aload_n 0, 1) := by decide +kernel
theorem dX10_write_26 : decode cX10_write 26 = .ok (.getfield 12, 3) := by decide +kernel
theorem dX10_write_29 : decode cX10_write 29 = .ok (.getfield 95, 3) := by decide +kernel
theorem dX10_write_32 : decode cX10_write 32 = .ok (.goto 5, 3) := by decide +kernel
theorem dX10_write_35 : decode cX10_write 35 = .ok (.bipush (-4), 2) := by decide +kernel
theorem dX10_write_37 : decode cX10_write 37 = .ok (.ireturn, 1) := by decide +kernel
theorem dX10_wipe_0 : decode cX10_wipe 0 = .ok (.aload_n 0, 1) := by decide +kernel
theorem dX10_wipe_1 : decode cX10_wipe 1 = .ok (.getfield 12, 3) := by decide +kernel
theorem dX10_wipe_4 : decode cX10_wipe 4 = .ok (.getfield 95, 3) := by decide +kernel
theorem dX10_wipe_7 : decode cX10_wipe 7 = .ok (.istore_n 1, 1) := by decide +kernel
theorem dX10_wipe_8 : decode cX10_wipe 8 = .ok (.aload_n 0, 1) := by decide +kernel
theorem dX10_wipe_9 : decode cX10_wipe 9 = .ok (.getfield 12, 3) := by decide +kernel
theorem dX10_wipe_12 : decode cX10_wipe 12 = .ok (.iconst 0, 1) := by decide +kernel
theorem dX10_wipe_13 : decode cX10_wipe 13 = .ok (.putfield 95, 3) := by decide +kernel
theorem dX10_wipe_16 : decode cX10_wipe 16 = .ok (.iload_n 1, 1) := by decide +kernel
theorem dX10_wipe_17 : decode cX10_wipe 17 = .ok (.ireturn, 1) := by decide +kernel
theorem dX10_fault_0 : decode cX10_fault 0 = .ok (.aload_n 0, 1) := by decide +kernel
theorem dX10_fault_1 : decode cX10_fault 1 = .ok (.getfield 12, 3) := by decide +kernel
theorem dX10_fault_4 : decode cX10_fault 4 = .ok (.invokevirtual 99, 3) := by decide +kernel
theorem dX10_fault_7 : decode cX10_fault 7 = .ok (.ireturn, 1) := by decide +kernel
theorem dX10_fair_0 : decode cX10_fair 0 = .ok (.aload_n 0, 1) := by decide +kernel
theorem dX10_fair_1 : decode cX10_fair 1 = .ok (.getfield 12, 3) := by decide +kernel
theorem dX10_fair_4 : decode cX10_fair 4 = .ok (.invokevirtual 99, 3) := by decide +kernel
theorem dX10_fair_7 : decode cX10_fair 7 = .ok (.bipush (-9), 2) := by decide +kernel
theorem dX10_fair_9 : decode cX10_fair 9 = .ok (.if_icmp .eq 6, 3) := by decide +kernel
theorem dX10_fair_12 : decode cX10_fair 12 = .ok (.bipush (-3), 2) := by decide +kernel
theorem dX10_fair_14 : decode cX10_fair 14 = .ok (.ireturn, 1) := by decide +kernel
theorem dX10_fair_15 : decode cX10_fair 15 = .ok (.aload_n 0, 1) := by decide +kernel
theorem dX10_fair_16 : decode cX10_fair 16 = .ok (.getfield 19, 3) := by decide +kernel
theorem dX10_fair_19 : decode cX10_fair 19 = .ok (.aload_n 0, 1) := by decide +kernel
theorem dX10_fair_20 : decode cX10_fair 20 = .ok (.getfield 12, 3) := by decide +kernel
theorem dX10_fair_23 : decode cX10_fair 23 = .ok (.invokevirtual 103, 3) := by decide +kernel
theorem dX10_fair_26 : decode cX10_fair 26 = .ok (.aload_n 0, 1) := by decide +kernel
theorem dX10_fair_27 : decode cX10_fair 27 = .ok (.getfield 26, 3) := by decide +kernel
theorem dX10_fair_30 : decode cX10_fair 30 = .ok (.invokevirtual 107, 3) := by decide +kernel
theorem dX10_fair_33 : decode cX10_fair 33 = .ok (.aload_n 0, 1) := by decide +kernel
theorem dX10_fair_34 : decode cX10_fair 34 = .ok (.getfield 33, 3) := by decide +kernel
theorem dX10_fair_37 : decode cX10_fair 37 = .ok (.iconst 0, 1) := by decide +kernel
theorem dX10_fair_38 : decode cX10_fair 38 = .ok (.putfield 110, 3) := by decide +kernel
theorem dX10_fair_41 : decode cX10_fair 41 = .ok (.aload_n 0, 1) := by decide +kernel
theorem dX10_fair_42 : decode cX10_fair 42 = .ok (.invokevirtual 113, 3) := by decide +kernel
theorem dX10_fair_45 : decode cX10_fair 45 = .ok (.bipush 10, 2) := by decide +kernel
theorem dX10_fair_47 : decode cX10_fair 47 = .ok (.aload_n 0, 1) := by decide +kernel
theorem dX10_fair_48 : decode cX10_fair 48 = .ok (.getfield 19, 3) := by decide +kernel
theorem dX10_fair_51 : decode cX10_fair 51 = .ok (.getfield 116, 3) := by decide +kernel
theorem dX10_fair_54 : decode cX10_fair 54 = .ok (.imul, 1) := by decide +kernel
theorem dX10_fair_55 : decode cX10_fair 55 = .ok (.aload_n 0, 1) := by decide +kernel
theorem dX10_fair_56 : decode cX10_fair 56 = .ok (.getfield 19, 3) := by decide +kernel
theorem dX10_fair_59 : decode cX10_fair 59 = .ok (.getfield 119, 3) := by decide +kernel
theorem dX10_fair_62 : decode cX10_fair 62 = .ok (.iadd, 1) := by decide +kernel
theorem dX10_fair_63 : decode cX10_fair 63 = .ok (.ireturn, 1) := by decide +kernel
theorem dX10_about_0 : decode cX10_about 0 = .ok (.iload_n 1, 1) := by decide +kernel
theorem dX10_about_1 : decode cX10_about 1 = .ok (.tableswitch 111 0 7 #[47, 55, 63, 74, 82, 90, 98, 106], 47) := by decide +kernel
theorem dX10_about_48 : decode cX10_about 48 = .ok (.aload_n 0, 1) := by decide +kernel
theorem dX10_about_49 : decode cX10_about 49 = .ok (.getfield 19, 3) := by decide +kernel
theorem dX10_about_52 : decode cX10_about 52 = .ok (.getfield 116, 3) := by decide +kernel
theorem dX10_about_55 : decode cX10_about 55 = .ok (.ireturn, 1) := by decide +kernel
theorem dX10_about_56 : decode cX10_about 56 = .ok (.aload_n 0, 1) := by decide +kernel
theorem dX10_about_57 : decode cX10_about 57 = .ok (.getfield 19, 3) := by decide +kernel
theorem dX10_about_60 : decode cX10_about 60 = .ok (.getfield 119, 3) := by decide +kernel
theorem dX10_about_63 : decode cX10_about 63 = .ok (.ireturn, 1) := by decide +kernel
theorem dX10_about_64 : decode cX10_about 64 = .ok (.aload_n 0, 1) := by decide +kernel
theorem dX10_about_65 : decode cX10_about 65 = .ok (.getfield 26, 3) := by decide +kernel
theorem dX10_about_68 : decode cX10_about 68 = .ok (.getfield 122, 3) := by decide +kernel
theorem dX10_about_71 : decode cX10_about 71 = .ok (.invokevirtual 125, 3) := by decide +kernel
theorem dX10_about_74 : decode cX10_about 74 = .ok (.ireturn, 1) := by decide +kernel
theorem dX10_about_75 : decode cX10_about 75 = .ok (.aload_n 0, 1) := by decide +kernel
theorem dX10_about_76 : decode cX10_about 76 = .ok (.getfield 26, 3) := by decide +kernel
theorem dX10_about_79 : decode cX10_about 79 = .ok (.getfield 128, 3) := by decide +kernel
theorem dX10_about_82 : decode cX10_about 82 = .ok (.ireturn, 1) := by decide +kernel
theorem dX10_about_83 : decode cX10_about 83 = .ok (.aload_n 0, 1) := by decide +kernel
theorem dX10_about_84 : decode cX10_about 84 = .ok (.getfield 33, 3) := by decide +kernel
theorem dX10_about_87 : decode cX10_about 87 = .ok (.getfield 110, 3) := by decide +kernel
theorem dX10_about_90 : decode cX10_about 90 = .ok (.ireturn, 1) := by decide +kernel
theorem dX10_about_91 : decode cX10_about 91 = .ok (.aload_n 0, 1) := by decide +kernel
theorem dX10_about_92 : decode cX10_about 92 = .ok (.getfield 44, 3) := by decide +kernel
theorem dX10_about_95 : decode cX10_about 95 = .ok (.getfield 131, 3) := by decide +kernel
theorem dX10_about_98 : decode cX10_about 98 = .ok (.ireturn, 1) := by decide +kernel
theorem dX10_about_99 : decode cX10_about 99 = .ok (.aload_n 0, 1) := by decide +kernel
theorem dX10_about_100 : decode cX10_about 100 = .ok (.getfield 12, 3) := by decide +kernel
theorem dX10_about_103 : decode cX10_about 103 = .ok (.getfield 95, 3) := by decide +kernel
theorem dX10_about_106 : decode cX10_about 106 = .ok (.ireturn, 1) := by decide +kernel
theorem dX10_about_107 : decode cX10_about 107 = .ok (.aload_n 0, 1) := by decide +kernel
theorem dX10_about_108 : decode cX10_about 108 = .ok (.invokevirtual 132, 3) := by decide +kernel
theorem dX10_about_111 : decode cX10_about 111 = .ok (.ireturn, 1) := by decide +kernel
theorem dX10_about_112 : decode cX10_about 112 = .ok (.bipush (-2), 2) := by decide +kernel
theorem dX10_about_114 : decode cX10_about 114 = .ok (.ireturn, 1) := by decide +kernel
theorem dX10_horse_0 : decode cX10_horse 0 = .ok (.aload_n 0, 1) := by decide +kernel
theorem dX10_horse_1 : decode cX10_horse 1 = .ok (.getfield 19, 3) := by decide +kernel
theorem dX10_horse_4 : decode cX10_horse 4 = .ok (.iload_n 1, 1) := by decide +kernel
theorem dX10_horse_5 : decode cX10_horse 5 = .ok (.invokevirtual 135, 3) := by decide +kernel
theorem dX10_horse_8 : decode cX10_horse 8 = .ok (.ifCond .ne 5, 3) := by decide +kernel
theorem dX10_horse_11 : decode cX10_horse 11 = .ok (.iconst (-1), 1) := by decide +kernel
theorem dX10_horse_12 : decode cX10_horse 12 = .ok (.ireturn, 1) := by decide +kernel
theorem dX10_horse_13 : decode cX10_horse 13 = .ok (.iload_n 2, 1) := by decide +kernel
theorem dX10_horse_14 : decode cX10_horse 14 = .ok (.tableswitch 110 0 5 #[38, 50, 62, 74, 86, 98], 38) := by decide +kernel
theorem dX10_horse_52 : decode cX10_horse 52 = .ok (.aload_n 0, 1) := by decide +kernel
theorem dX10_horse_53 : decode cX10_horse 53 = .ok (.getfield 19, 3) := by decide +kernel
theorem dX10_horse_56 : decode cX10_horse 56 = .ok (.getfield 138, 3) := by decide +kernel
theorem dX10_horse_59 : decode cX10_horse 59 = .ok (.iload_n 1, 1) := by decide +kernel
theorem dX10_horse_60 : decode cX10_horse 60 = .ok (.invokestatic 142, 3) := by decide +kernel
theorem dX10_horse_63 : decode cX10_horse 63 = .ok (.ireturn, 1) := by decide +kernel
theorem dX10_horse_64 : decode cX10_horse 64 = .ok (.aload_n 0, 1) := by decide +kernel
theorem dX10_horse_65 : decode cX10_horse 65 = .ok (.getfield 19, 3) := by decide +kernel
theorem dX10_horse_68 : decode cX10_horse 68 = .ok (.getfield 146, 3) := by decide +kernel
theorem dX10_horse_71 : decode cX10_horse 71 = .ok (.iload_n 1, 1) := by decide +kernel
theorem dX10_horse_72 : decode cX10_horse 72 = .ok (.invokestatic 149, 3) := by decide +kernel
theorem dX10_horse_75 : decode cX10_horse 75 = .ok (.ireturn, 1) := by decide +kernel
theorem dX10_horse_76 : decode cX10_horse 76 = .ok (.aload_n 0, 1) := by decide +kernel
theorem dX10_horse_77 : decode cX10_horse 77 = .ok (.getfield 19, 3) := by decide +kernel
theorem dX10_horse_80 : decode cX10_horse 80 = .ok (.getfield 152, 3) := by decide +kernel
theorem dX10_horse_83 : decode cX10_horse 83 = .ok (.iload_n 1, 1) := by decide +kernel
theorem dX10_horse_84 : decode cX10_horse 84 = .ok (.invokestatic 142, 3) := by decide +kernel
theorem dX10_horse_87 : decode cX10_horse 87 = .ok (.ireturn, 1) := by decide +kernel
theorem dX10_horse_88 : decode cX10_horse 88 = .ok (.aload_n 0, 1) := by decide +kernel
theorem dX10_horse_89 : decode cX10_horse 89 = .ok (.getfield 19, 3) := by decide +kernel
theorem dX10_horse_92 : decode cX10_horse 92 = .ok (.getfield 155, 3) := by decide +kernel
theorem dX10_horse_95 : decode cX10_horse 95 = .ok (.iload_n 1, 1) := by decide +kernel
theorem dX10_horse_96 : decode cX10_horse 96 = .ok (.invokestatic 142, 3) := by decide +kernel
theorem dX10_horse_99 : decode cX10_horse 99 = .ok (.ireturn, 1) := by decide +kernel
theorem dX10_horse_100 : decode cX10_horse 100 = .ok (.aload_n 0, 1) := by decide +kernel
theorem dX10_horse_101 : decode cX10_horse 101 = .ok (.getfield 19, 3) := by decide +kernel
theorem dX10_horse_104 : decode cX10_horse 104 = .ok (.getfield 158, 3) := by decide +kernel
theorem dX10_horse_107 : decode cX10_horse 107 = .ok (.iload_n 1, 1) := by decide +kernel
theorem dX10_horse_108 : decode cX10_horse 108 = .ok (.invokestatic 142, 3) := by decide +kernel
theorem dX10_horse_111 : decode cX10_horse 111 = .ok (.ireturn, 1) := by decide +kernel
theorem dX10_horse_112 : decode cX10_horse 112 = .ok (.aload_n 0, 1) := by decide +kernel
theorem dX10_horse_113 : decode cX10_horse 113 = .ok (.getfield 26, 3) := by decide +kernel
theorem dX10_horse_116 : decode cX10_horse 116 = .ok (.getfield 122, 3) := by decide +kernel
theorem dX10_horse_119 : decode cX10_horse 119 = .ok (.iload_n 1, 1) := by decide +kernel
theorem dX10_horse_120 : decode cX10_horse 120 = .ok (.invokevirtual 161, 3) := by decide +kernel
theorem dX10_horse_123 : decode cX10_horse 123 = .ok (.ireturn, 1) := by decide +kernel
theorem dX10_horse_124 : decode cX10_horse 124 = .ok (.bipush (-2), 2) := by decide +kernel
theorem dX10_horse_126 : decode cX10_horse 126 = .ok (.ireturn, 1) := by decide +kernel
theorem dX10_rider_0 : decode cX10_rider 0 = .ok (.aload_n 0, 1) := by decide +kernel
theorem dX10_rider_1 : decode cX10_rider 1 = .ok (.getfield 19, 3) := by decide +kernel
theorem dX10_rider_4 : decode cX10_rider 4 = .ok (.iload_n 1, 1) := by decide +kernel
theorem dX10_rider_5 : decode cX10_rider 5 = .ok (.invokevirtual 165, 3) := by decide +kernel
theorem dX10_rider_8 : decode cX10_rider 8 = .ok (.ifCond .ne 5, 3) := by decide +kernel
theorem dX10_rider_11 : decode cX10_rider 11 = .ok (.iconst (-1), 1) := by decide +kernel
theorem dX10_rider_12 : decode cX10_rider 12 = .ok (.ireturn, 1) := by decide +kernel
theorem dX10_rider_13 : decode cX10_rider 13 = .ok (.iload_n 2, 1) := by decide +kernel
theorem dX10_rider_14 : decode cX10_rider 14 = .ok (.tableswitch 86 0 4 #[34, 46, 52, 64, 76], 34) := by decide +kernel
theorem dX10_rider_48 : decode cX10_rider 48 = .ok (.aload_n 0, 1) := by decide +kernel
theorem dX10_rider_49 : decode cX10_rider 49 = .ok (.getfield 19, 3) := by decide +kernel
theorem dX10_rider_52 : decode cX10_rider 52 = .ok (.getfield 168, 3) := by decide +kernel
theorem dX10_rider_55 : decode cX10_rider 55 = .ok (.iload_n 1, 1) := by decide +kernel
theorem dX10_rider_56 : decode cX10_rider 56 = .ok (.invokestatic 149, 3) := by decide +kernel
theorem dX10_rider_59 : decode cX10_rider 59 = .ok (.ireturn, 1) := by decide +kernel
theorem dX10_rider_60 : decode cX10_rider 60 = .ok (.aload_n 0, 1) := by decide +kernel
theorem dX10_rider_61 : decode cX10_rider 61 = .ok (.iload_n 1, 1) := by decide +kernel
theorem dX10_rider_62 : decode cX10_rider 62 = .ok (.invokevirtual 171, 3) := by decide +kernel
theorem dX10_rider_65 : decode cX10_rider 65 = .ok (.ireturn, 1) := by decide +kernel
theorem dX10_rider_66 : decode cX10_rider 66 = .ok (.aload_n 0, 1) := by decide +kernel
theorem dX10_rider_67 : decode cX10_rider 67 = .ok (.getfield 19, 3) := by decide +kernel
theorem dX10_rider_70 : decode cX10_rider 70 = .ok (.getfield 174, 3) := by decide +kernel
theorem dX10_rider_73 : decode cX10_rider 73 = .ok (.iload_n 1, 1) := by decide +kernel
theorem dX10_rider_74 : decode cX10_rider 74 = .ok (.invokestatic 142, 3) := by decide +kernel
theorem dX10_rider_77 : decode cX10_rider 77 = .ok (.ireturn, 1) := by decide +kernel
theorem dX10_rider_78 : decode cX10_rider 78 = .ok (.aload_n 0, 1) := by decide +kernel
theorem dX10_rider_79 : decode cX10_rider 79 = .ok (.getfield 26, 3) := by decide +kernel
theorem dX10_rider_82 : decode cX10_rider 82 = .ok (.getfield 122, 3) := by decide +kernel
theorem dX10_rider_85 : decode cX10_rider 85 = .ok (.iload_n 1, 1) := by decide +kernel
theorem dX10_rider_86 : decode cX10_rider 86 = .ok (.invokevirtual 177, 3) := by decide +kernel
theorem dX10_rider_89 : decode cX10_rider 89 = .ok (.ireturn, 1) := by decide +kernel
theorem dX10_rider_90 : decode cX10_rider 90 = .ok (.aload_n 0, 1) := by decide +kernel
theorem dX10_rider_91 : decode cX10_rider 91 = .ok (.getfield 19, 3) := by decide +kernel
theorem dX10_rider_94 : decode cX10_rider 94 = .ok (.iload_n 1, 1) := by decide +kernel
theorem dX10_rider_95 : decode cX10_rider 95 = .ok (.iconst 0, 1) := by decide +kernel
theorem dX10_rider_96 : decode cX10_rider 96 = .ok (.invokevirtual 180, 3) := by decide +kernel
theorem dX10_rider_99 : decode cX10_rider 99 = .ok (.ireturn, 1) := by decide +kernel
theorem dX10_rider_100 : decode cX10_rider 100 = .ok (.bipush (-2), 2) := by decide +kernel
theorem dX10_rider_102 : decode cX10_rider 102 = .ok (.ireturn, 1) := by decide +kernel
theorem dX10_worth_0 : decode cX10_worth 0 = .ok (.aload_n 0, 1) := by decide +kernel
theorem dX10_worth_1 : decode cX10_worth 1 = .ok (.getfield 19, 3) := by decide +kernel
theorem dX10_worth_4 : decode cX10_worth 4 = .ok (.iload_n 1, 1) := by decide +kernel
theorem dX10_worth_5 : decode cX10_worth 5 = .ok (.invokevirtual 135, 3) := by decide +kernel
theorem dX10_worth_8 : decode cX10_worth 8 = .ok (.ifCond .eq 14, 3) := by decide +kernel
theorem dX10_worth_11 : decode cX10_worth 11 = .ok (.aload_n 0, 1) := by decide +kernel
theorem dX10_worth_12 : decode cX10_worth 12 = .ok (.getfield 19, 3) := by decide +kernel
theorem dX10_worth_15 : decode cX10_worth 15 = .ok (.iload_n 2, 1) := by decide +kernel
theorem dX10_worth_16 : decode cX10_worth 16 = .ok (.invokevirtual 165, 3) := by decide +kernel
theorem dX10_worth_19 : decode cX10_worth 19 = .ok (.ifCond .ne 5, 3) := by decide +kernel
theorem dX10_worth_22 : decode cX10_worth 22 = .ok (.iconst (-1), 1) := by decide +kernel
theorem dX10_worth_23 : decode cX10_worth 23 = .ok (.ireturn, 1) := by decide +kernel
theorem dX10_worth_24 : decode cX10_worth 24 = .ok (.aload_n 0, 1) := by decide +kernel
theorem dX10_worth_25 : decode cX10_worth 25 = .ok (.getfield 53, 3) := by decide +kernel
theorem dX10_worth_28 : decode cX10_worth 28 = .ok (.aload_n 0, 1) := by decide +kernel
theorem dX10_worth_29 : decode cX10_worth 29 = .ok (.getfield 26, 3) := by decide +kernel
theorem dX10_worth_32 : decode cX10_worth 32 = .ok (.invokevirtual 184, 3) := by decide +kernel
theorem dX10_worth_35 : decode cX10_worth 35 = .ok (.aload_n 0, 1) := by decide +kernel
theorem dX10_worth_36 : decode cX10_worth 36 = .ok (.getfield 53, 3) := by decide +kernel
theorem dX10_worth_39 : decode cX10_worth 39 = .ok (.iload_n 1, 1) := by decide +kernel
theorem dX10_worth_40 : decode cX10_worth 40 = .ok (.iload_n 2, 1) := by decide +kernel
theorem dX10_worth_41 : decode cX10_worth 41 = .ok (.invokevirtual 188, 3) := by decide +kernel
theorem dX10_worth_44 : decode cX10_worth 44 = .ok (.ireturn, 1) := by decide +kernel
theorem dX10_lead_0 : decode cX10_lead 0 = .ok (.aload_n 0, 1) := by decide +kernel
theorem dX10_lead_1 : decode cX10_lead 1 = .ok (.getfield 19, 3) := by decide +kernel
theorem dX10_lead_4 : decode cX10_lead 4 = .ok (.iload_n 1, 1) := by decide +kernel
theorem dX10_lead_5 : decode cX10_lead 5 = .ok (.invokevirtual 165, 3) := by decide +kernel
theorem dX10_lead_8 : decode cX10_lead 8 = .ok (.ifCond .eq 14, 3) := by decide +kernel
theorem dX10_lead_11 : decode cX10_lead 11 = .ok (.aload_n 0, 1) := by decide +kernel
theorem dX10_lead_12 : decode cX10_lead 12 = .ok (.getfield 19, 3) := by decide +kernel
theorem dX10_lead_15 : decode cX10_lead 15 = .ok (.iload_n 2, 1) := by decide +kernel
theorem dX10_lead_16 : decode cX10_lead 16 = .ok (.invokevirtual 135, 3) := by decide +kernel
theorem dX10_lead_19 : decode cX10_lead 19 = .ok (.ifCond .ne 5, 3) := by decide +kernel
theorem dX10_lead_22 : decode cX10_lead 22 = .ok (.iconst (-1), 1) := by decide +kernel
theorem dX10_lead_23 : decode cX10_lead 23 = .ok (.ireturn, 1) := by decide +kernel
theorem dX10_lead_24 : decode cX10_lead 24 = .ok (.aload_n 0, 1) := by decide +kernel
theorem dX10_lead_25 : decode cX10_lead 25 = .ok (.getfield 26, 3) := by decide +kernel
theorem dX10_lead_28 : decode cX10_lead 28 = .ok (.getfield 122, 3) := by decide +kernel
theorem dX10_lead_31 : decode cX10_lead 31 = .ok (.iload_n 1, 1) := by decide +kernel
theorem dX10_lead_32 : decode cX10_lead 32 = .ok (.invokevirtual 177, 3) := by decide +kernel
theorem dX10_lead_35 : decode cX10_lead 35 = .ok (.bipush (-9), 2) := by decide +kernel
theorem dX10_lead_37 : decode cX10_lead 37 = .ok (.if_icmp .eq 6, 3) := by decide +kernel
theorem dX10_lead_40 : decode cX10_lead 40 = .ok (.bipush (-3), 2) := by decide +kernel
theorem dX10_lead_42 : decode cX10_lead 42 = .ok (.ireturn, 1) := by decide +kernel
theorem dX10_lead_43 : decode cX10_lead 43 = .ok (.aload_n 0, 1) := by decide +kernel
theorem dX10_lead_44 : decode cX10_lead 44 = .ok (.getfield 33, 3) := by decide +kernel
theorem dX10_lead_47 : decode cX10_lead 47 = .ok (.aload_n 0, 1) := by decide +kernel
theorem dX10_lead_48 : decode cX10_lead 48 = .ok (.getfield 26, 3) := by decide +kernel
theorem dX10_lead_51 : decode cX10_lead 51 = .ok (.invokevirtual 191, 3) := by decide +kernel
theorem dX10_lead_54 : decode cX10_lead 54 = .ok (.aload_n 0, 1) := by decide +kernel
theorem dX10_lead_55 : decode cX10_lead 55 = .ok (.getfield 53, 3) := by decide +kernel
theorem dX10_lead_58 : decode cX10_lead 58 = .ok (.aload_n 0, 1) := by decide +kernel
theorem dX10_lead_59 : decode cX10_lead 59 = .ok (.getfield 26, 3) := by decide +kernel
theorem dX10_lead_62 : decode cX10_lead 62 = .ok (.invokevirtual 184, 3) := by decide +kernel
theorem dX10_lead_65 : decode cX10_lead 65 = .ok (.aload_n 0, 1) := by decide +kernel
theorem dX10_lead_66 : decode cX10_lead 66 = .ok (.getfield 26, 3) := by decide +kernel
theorem dX10_lead_69 : decode cX10_lead 69 = .ok (.getfield 122, 3) := by decide +kernel
theorem dX10_lead_72 : decode cX10_lead 72 = .ok (.iload_n 1, 1) := by decide +kernel
theorem dX10_lead_73 : decode cX10_lead 73 = .ok (.iload_n 2, 1) := by decide +kernel
theorem dX10_lead_74 : decode cX10_lead 74 = .ok (.aload_n 0, 1) := by decide +kernel
theorem dX10_lead_75 : decode cX10_lead 75 = .ok (.getfield 53, 3) := by decide +kernel
theorem dX10_lead_78 : decode cX10_lead 78 = .ok (.invokevirtual 194, 3) := by decide +kernel
theorem dX10_lead_81 : decode cX10_lead 81 = .ok (.ifCond .eq 7, 3) := by decide +kernel
theorem dX10_lead_84 : decode cX10_lead 84 = .ok (.iconst 1, 1) := by decide +kernel
theorem dX10_lead_85 : decode cX10_lead 85 = .ok (.goto 4, 3) := by decide +kernel
theorem dX10_lead_88 : decode cX10_lead 88 = .ok (.iconst 0, 1) := by decide +kernel
theorem dX10_lead_89 : decode cX10_lead 89 = .ok (.ireturn, 1) := by decide +kernel
theorem dX10_dress_0 : decode cX10_dress 0 = .ok (.aload_n 0, 1) := by decide +kernel
theorem dX10_dress_1 : decode cX10_dress 1 = .ok (.getfield 19, 3) := by decide +kernel
theorem dX10_dress_4 : decode cX10_dress 4 = .ok (.iload_n 1, 1) := by decide +kernel
theorem dX10_dress_5 : decode cX10_dress 5 = .ok (.invokevirtual 165, 3) := by decide +kernel
theorem dX10_dress_8 : decode cX10_dress 8 = .ok (.ifCond .ne 5, 3) := by decide +kernel
theorem dX10_dress_11 : decode cX10_dress 11 = .ok (.iconst (-1), 1) := by decide +kernel
theorem dX10_dress_12 : decode cX10_dress 12 = .ok (.ireturn, 1) := by decide +kernel
theorem dX10_dress_13 : decode cX10_dress 13 = .ok (.iload_n 2, 1) := by decide +kernel
theorem dX10_dress_14 : decode cX10_dress 14 = .ok (.invokestatic 198, 3) := by decide +kernel
theorem dX10_dress_17 : decode cX10_dress 17 = .ok (.ifCond .ne 6, 3) := by decide +kernel
theorem dX10_dress_20 : decode cX10_dress 20 = .ok (.bipush (-2), 2) := by decide +kernel
theorem dX10_dress_22 : decode cX10_dress 22 = .ok (.ireturn, 1) := by decide +kernel
theorem dX10_dress_23 : decode cX10_dress 23 = .ok (.aload_n 0, 1) := by decide +kernel
theorem dX10_dress_24 : decode cX10_dress 24 = .ok (.iload_n 1, 1) := by decide +kernel
theorem dX10_dress_25 : decode cX10_dress 25 = .ok (.iload_n 2, 1) := by decide +kernel
theorem dX10_dress_26 : decode cX10_dress 26 = .ok (.invokevirtual 201, 3) := by decide +kernel
theorem dX10_dress_29 : decode cX10_dress 29 = .ok (.bipush 9, 2) := by decide +kernel
theorem dX10_dress_31 : decode cX10_dress 31 = .ok (.if_icmp .lt 6, 3) := by decide +kernel
theorem dX10_dress_34 : decode cX10_dress 34 = .ok (.bipush (-4), 2) := by decide +kernel
theorem dX10_dress_36 : decode cX10_dress 36 = .ok (.ireturn, 1) := by decide +kernel
theorem dX10_dress_37 : decode cX10_dress 37 = .ok (.aload_n 0, 1) := by decide +kernel
theorem dX10_dress_38 : decode cX10_dress 38 = .ok (.getfield 33, 3) := by decide +kernel
theorem dX10_dress_41 : decode cX10_dress 41 = .ok (.aload_n 0, 1) := by decide +kernel
theorem dX10_dress_42 : decode cX10_dress 42 = .ok (.getfield 26, 3) := by decide +kernel
theorem dX10_dress_45 : decode cX10_dress 45 = .ok (.invokevirtual 191, 3) := by decide +kernel
theorem dX10_dress_48 : decode cX10_dress 48 = .ok (.iconst 3, 1) := by decide +kernel
theorem dX10_dress_49 : decode cX10_dress 49 = .ok (.iload_n 1, 1) := by decide +kernel
theorem dX10_dress_50 : decode cX10_dress 50 = .ok (.imul, 1) := by decide +kernel
theorem dX10_dress_51 : decode cX10_dress 51 = .ok (.iload_n 2, 1) := by decide +kernel
theorem dX10_dress_52 : decode cX10_dress 52 = .ok (.iadd, 1) := by decide +kernel
theorem dX10_dress_53 : decode cX10_dress 53 = .ok (.istore_n 3, 1) := by decide +kernel
theorem dX10_dress_54 : decode cX10_dress 54 = .ok (.aload_n 0, 1) := by decide +kernel
theorem dX10_dress_55 : decode cX10_dress 55 = .ok (.getfield 26, 3) := by decide +kernel
theorem dX10_dress_58 : decode cX10_dress 58 = .ok (.getfield 204, 3) := by decide +kernel
theorem dX10_dress_61 : decode cX10_dress 61 = .ok (.iload_n 3, 1) := by decide +kernel
theorem dX10_dress_62 : decode cX10_dress 62 = .ok (.aload_n 0, 1) := by decide +kernel
theorem dX10_dress_63 : decode cX10_dress 63 = .ok (.getfield 26, 3) := by decide +kernel
theorem dX10_dress_66 : decode cX10_dress 66 = .ok (.getfield 204, 3) := by decide +kernel
theorem dX10_dress_69 : decode cX10_dress 69 = .ok (.iload_n 3, 1) := by decide +kernel
theorem dX10_dress_70 : decode cX10_dress 70 = .ok (.invokestatic 142, 3) := by decide +kernel
theorem dX10_dress_73 : decode cX10_dress 73 = .ok (.iconst 1, 1) := by decide +kernel
theorem dX10_dress_74 : decode cX10_dress 74 = .ok (.iadd, 1) := by decide +kernel
theorem dX10_dress_75 : decode cX10_dress 75 = .ok (.invokestatic 207, 3) := by decide +kernel
theorem dX10_dress_78 : decode cX10_dress 78 = .ok (.aload_n 0, 1) := by decide +kernel
theorem dX10_dress_79 : decode cX10_dress 79 = .ok (.getfield 26, 3) := by decide +kernel
theorem dX10_dress_82 : decode cX10_dress 82 = .ok (.dup, 1) := by decide +kernel
theorem dX10_dress_83 : decode cX10_dress 83 = .ok (.getfield 128, 3) := by decide +kernel
theorem dX10_dress_86 : decode cX10_dress 86 = .ok (.iconst 1, 1) := by decide +kernel
theorem dX10_dress_87 : decode cX10_dress 87 = .ok (.iadd, 1) := by decide +kernel
theorem dX10_dress_88 : decode cX10_dress 88 = .ok (.putfield 128, 3) := by decide +kernel
theorem dX10_dress_91 : decode cX10_dress 91 = .ok (.aload_n 0, 1) := by decide +kernel
theorem dX10_dress_92 : decode cX10_dress 92 = .ok (.iload_n 1, 1) := by decide +kernel
theorem dX10_dress_93 : decode cX10_dress 93 = .ok (.iload_n 2, 1) := by decide +kernel
theorem dX10_dress_94 : decode cX10_dress 94 = .ok (.invokevirtual 201, 3) := by decide +kernel
theorem dX10_dress_97 : decode cX10_dress 97 = .ok (.ireturn, 1) := by decide +kernel
theorem dX10_giveBack_0 : decode cX10_giveBack 0 = .ok (.aload_n 0, 1) := by decide +kernel
theorem dX10_giveBack_1 : decode cX10_giveBack 1 = .ok (.getfield 19, 3) := by decide +kernel
theorem dX10_giveBack_4 : decode cX10_giveBack 4 = .ok (.iload_n 1, 1) := by decide +kernel
theorem dX10_giveBack_5 : decode cX10_giveBack 5 = .ok (.invokevirtual 165, 3) := by decide +kernel
theorem dX10_giveBack_8 : decode cX10_giveBack 8 = .ok (.ifCond .ne 5, 3) := by decide +kernel
theorem dX10_giveBack_11 : decode cX10_giveBack 11 = .ok (.iconst (-1), 1) := by decide +kernel
theorem dX10_giveBack_12 : decode cX10_giveBack 12 = .ok (.ireturn, 1) := by decide +kernel
theorem dX10_giveBack_13 : decode cX10_giveBack 13 = .ok (.aload_n 0, 1) := by decide +kernel
theorem dX10_giveBack_14 : decode cX10_giveBack 14 = .ok (.getfield 26, 3) := by decide +kernel
theorem dX10_giveBack_17 : decode cX10_giveBack 17 = .ok (.getfield 122, 3) := by decide +kernel
theorem dX10_giveBack_20 : decode cX10_giveBack 20 = .ok (.iload_n 1, 1) := by decide +kernel
theorem dX10_giveBack_21 : decode cX10_giveBack 21 = .ok (.invokevirtual 177, 3) := by decide +kernel
theorem dX10_giveBack_24 : decode cX10_giveBack 24 = .ok (.istore_n 2, 1) := by decide +kernel
theorem dX10_giveBack_25 : decode cX10_giveBack 25 = .ok (.iload_n 2, 1) := by decide +kernel
theorem dX10_giveBack_26 : decode cX10_giveBack 26 = .ok (.bipush (-9), 2) := by decide +kernel
theorem dX10_giveBack_28 : decode cX10_giveBack 28 = .ok (.if_icmp .ne 6, 3) := by decide +kernel
theorem dX10_giveBack_31 : decode cX10_giveBack 31 = .ok (.bipush (-3), 2) := by decide +kernel
theorem dX10_giveBack_33 : decode cX10_giveBack 33 = .ok (.ireturn, 1) := by decide +kernel
theorem dX10_giveBack_34 : decode cX10_giveBack 34 = .ok (.aload_n 0, 1) := by decide +kernel
theorem dX10_giveBack_35 : decode cX10_giveBack 35 = .ok (.getfield 33, 3) := by decide +kernel
theorem dX10_giveBack_38 : decode cX10_giveBack 38 = .ok (.aload_n 0, 1) := by decide +kernel
theorem dX10_giveBack_39 : decode cX10_giveBack 39 = .ok (.getfield 26, 3) := by decide +kernel
theorem dX10_giveBack_42 : decode cX10_giveBack 42 = .ok (.invokevirtual 191, 3) := by decide +kernel
theorem dX10_giveBack_45 : decode cX10_giveBack 45 = .ok (.aload_n 0, 1) := by decide +kernel
theorem dX10_giveBack_46 : decode cX10_giveBack 46 = .ok (.getfield 26, 3) := by decide +kernel
theorem dX10_giveBack_49 : decode cX10_giveBack 49 = .ok (.getfield 122, 3) := by decide +kernel
theorem dX10_giveBack_52 : decode cX10_giveBack 52 = .ok (.iload_n 1, 1) := by decide +kernel
theorem dX10_giveBack_53 : decode cX10_giveBack 53 = .ok (.bipush (-9), 2) := by decide +kernel
theorem dX10_giveBack_55 : decode cX10_giveBack 55 = .ok (.invokevirtual 211, 3) := by decide +kernel
theorem dX10_giveBack_58 : decode cX10_giveBack 58 = .ok (.iload_n 2, 1) := by decide +kernel
theorem dX10_giveBack_59 : decode cX10_giveBack 59 = .ok (.ireturn, 1) := by decide +kernel
theorem dX10_bell_0 : decode cX10_bell 0 = .ok (.aload_n 0, 1) := by decide +kernel
theorem dX10_bell_1 : decode cX10_bell 1 = .ok (.getfield 33, 3) := by decide +kernel
theorem dX10_bell_4 : decode cX10_bell 4 = .ok (.aload_n 0, 1) := by decide +kernel
theorem dX10_bell_5 : decode cX10_bell 5 = .ok (.getfield 26, 3) := by decide +kernel
theorem dX10_bell_8 : decode cX10_bell 8 = .ok (.invokevirtual 191, 3) := by decide +kernel
theorem dX10_bell_11 : decode cX10_bell 11 = .ok (.aload_n 0, 1) := by decide +kernel
theorem dX10_bell_12 : decode cX10_bell 12 = .ok (.getfield 26, 3) := by decide +kernel
theorem dX10_bell_15 : decode cX10_bell 15 = .ok (.getfield 204, 3) := by decide +kernel
theorem dX10_bell_18 : decode cX10_bell 18 = .ok (.iconst 0, 1) := by decide +kernel
theorem dX10_bell_19 : decode cX10_bell 19 = .ok (.invokestatic 215, 3) := by decide +kernel
theorem dX10_bell_22 : decode cX10_bell 22 = .ok (.aload_n 0, 1) := by decide +kernel
theorem dX10_bell_23 : decode cX10_bell 23 = .ok (.getfield 53, 3) := by decide +kernel
theorem dX10_bell_26 : decode cX10_bell 26 = .ok (.aload_n 0, 1) := by decide +kernel
theorem dX10_bell_27 : decode cX10_bell 27 = .ok (.getfield 26, 3) := by decide +kernel
theorem dX10_bell_30 : decode cX10_bell 30 = .ok (.invokevirtual 184, 3) := by decide +kernel
theorem dX10_bell_33 : decode cX10_bell 33 = .ok (.iconst 0, 1) := by decide +kernel
theorem dX10_bell_34 : decode cX10_bell 34 = .ok (.istore_n 1, 1) := by decide +kernel
theorem dX10_bell_35 : decode cX10_bell 35 = .ok (.iconst 0, 1) := by decide +kernel
theorem dX10_bell_36 : decode cX10_bell 36 = .ok (.istore_n 2, 1) := by decide +kernel
theorem dX10_bell_37 : decode cX10_bell 37 = .ok (.iload_n 2, 1) := by decide +kernel
theorem dX10_bell_38 : decode cX10_bell 38 = .ok (.aload_n 0, 1) := by decide +kernel
theorem dX10_bell_39 : decode cX10_bell 39 = .ok (.getfield 19, 3) := by decide +kernel
theorem dX10_bell_42 : decode cX10_bell 42 = .ok (.getfield 119, 3) := by decide +kernel
theorem dX10_bell_45 : decode cX10_bell 45 = .ok (.if_icmp .ge 58, 3) := by decide +kernel
theorem dX10_bell_48 : decode cX10_bell 48 = .ok (.aload_n 0, 1) := by decide +kernel
theorem dX10_bell_49 : decode cX10_bell 49 = .ok (.getfield 26, 3) := by decide +kernel
theorem dX10_bell_52 : decode cX10_bell 52 = .ok (.getfield 122, 3) := by decide +kernel
theorem dX10_bell_55 : decode cX10_bell 55 = .ok (.iload_n 2, 1) := by decide +kernel
theorem dX10_bell_56 : decode cX10_bell 56 = .ok (.invokevirtual 177, 3) := by decide +kernel
theorem dX10_bell_59 : decode cX10_bell 59 = .ok (.istore_n 3, 1) := by decide +kernel
theorem dX10_bell_60 : decode cX10_bell 60 = .ok (.iload_n 3, 1) := by decide +kernel
theorem dX10_bell_61 : decode cX10_bell 61 = .ok (.bipush (-9), 2) := by decide +kernel
theorem dX10_bell_63 : decode cX10_bell 63 = .ok (.if_icmp .eq 34, 3) := by decide +kernel
theorem dX10_bell_66 : decode cX10_bell 66 = .ok (.aload_n 0, 1) := by decide +kernel
theorem dX10_bell_67 : decode cX10_bell 67 = .ok (.getfield 53, 3) := by decide +kernel
theorem dX10_bell_70 : decode cX10_bell 70 = .ok (.iload_n 3, 1) := by decide +kernel
theorem dX10_bell_71 : decode cX10_bell 71 = .ok (.iload_n 2, 1) := by decide +kernel
theorem dX10_bell_72 : decode cX10_bell 72 = .ok (.invokevirtual 221, 3) := by decide +kernel
theorem dX10_bell_75 : decode cX10_bell 75 = .ok (.ifCond .ne 22, 3) := by decide +kernel
theorem dX10_bell_78 : decode cX10_bell 78 = .ok (.aload_n 0, 1) := by decide +kernel
theorem dX10_bell_79 : decode cX10_bell 79 = .ok (.getfield 26, 3) := by decide +kernel
theorem dX10_bell_82 : decode cX10_bell 82 = .ok (.getfield 122, 3) := by decide +kernel
theorem dX10_bell_85 : decode cX10_bell 85 = .ok (.iload_n 2, 1) := by decide +kernel
theorem dX10_bell_86 : decode cX10_bell 86 = .ok (.bipush (-9), 2) := by decide +kernel
theorem dX10_bell_88 : decode cX10_bell 88 = .ok (.invokevirtual 211, 3) := by decide +kernel
theorem dX10_bell_91 : decode cX10_bell 91 = .ok (.iload_n 1, 1) := by decide +kernel
theorem dX10_bell_92 : decode cX10_bell 92 = .ok (.iconst 1, 1) := by decide +kernel
theorem dX10_bell_93 : decode cX10_bell 93 = .ok (.iload_n 2, 1) := by decide +kernel
theorem dX10_bell_94 : decode cX10_bell 94 = .ok (.ishl, 1) := by decide +kernel
theorem dX10_bell_95 : decode cX10_bell 95 = .ok (.ior, 1) := by decide +kernel
theorem dX10_bell_96 : decode cX10_bell 96 = .ok (.istore_n 1, 1) := by decide +kernel
theorem dX10_bell_97 : decode cX10_bell 97 = .ok (.iinc 2 1, 3) := by decide +kernel
theorem dX10_bell_100 : decode cX10_bell 100 = .ok (.goto (-63), 3) := by decide +kernel
theorem dX10_bell_103 : decode cX10_bell 103 = .ok (.iload_n 1, 1) := by decide +kernel
theorem dX10_bell_104 : decode cX10_bell 104 = .ok (.ireturn, 1) := by decide +kernel
theorem dX10_undo_0 : decode cX10_undo 0 = .ok (.aload_n 0, 1) := by decide +kernel
theorem dX10_undo_1 : decode cX10_undo 1 = .ok (.getfield 33, 3) := by decide +kernel
theorem dX10_undo_4 : decode cX10_undo 4 = .ok (.aload_n 0, 1) := by decide +kernel
theorem dX10_undo_5 : decode cX10_undo 5 = .ok (.getfield 26, 3) := by decide +kernel
theorem dX10_undo_8 : decode cX10_undo 8 = .ok (.invokevirtual 225, 3) := by decide +kernel
theorem dX10_undo_11 : decode cX10_undo 11 = .ok (.ifCond .eq 13, 3) := by decide +kernel
theorem dX10_undo_14 : decode cX10_undo 14 = .ok (.aload_n 0, 1) := by decide +kernel
theorem dX10_undo_15 : decode cX10_undo 15 = .ok (.getfield 33, 3) := by decide +kernel
theorem dX10_undo_18 : decode cX10_undo 18 = .ok (.getfield 110, 3) := by decide +kernel
theorem dX10_undo_21 : decode cX10_undo 21 = .ok (.goto 5, 3) := by decide +kernel
theorem dX10_undo_24 : decode cX10_undo 24 = .ok (.bipush (-3), 2) := by decide +kernel
theorem dX10_undo_26 : decode cX10_undo 26 = .ok (.ireturn, 1) := by decide +kernel
theorem dX10_bolts_0 : decode cX10_bolts 0 = .ok (.aload_n 0, 1) := by decide +kernel
theorem dX10_bolts_1 : decode cX10_bolts 1 = .ok (.getfield 19, 3) := by decide +kernel
theorem dX10_bolts_4 : decode cX10_bolts 4 = .ok (.iload_n 1, 1) := by decide +kernel
theorem dX10_bolts_5 : decode cX10_bolts 5 = .ok (.invokevirtual 165, 3) := by decide +kernel
theorem dX10_bolts_8 : decode cX10_bolts 8 = .ok (.ifCond .eq 14, 3) := by decide +kernel
theorem dX10_bolts_11 : decode cX10_bolts 11 = .ok (.aload_n 0, 1) := by decide +kernel
theorem dX10_bolts_12 : decode cX10_bolts 12 = .ok (.getfield 19, 3) := by decide +kernel
theorem dX10_bolts_15 : decode cX10_bolts 15 = .ok (.iload_n 2, 1) := by decide +kernel
theorem dX10_bolts_16 : decode cX10_bolts 16 = .ok (.invokevirtual 135, 3) := by decide +kernel
theorem dX10_bolts_19 : decode cX10_bolts 19 = .ok (.ifCond .ne 5, 3) := by decide +kernel
theorem dX10_bolts_22 : decode cX10_bolts 22 = .ok (.iconst (-1), 1) := by decide +kernel
theorem dX10_bolts_23 : decode cX10_bolts 23 = .ok (.ireturn, 1) := by decide +kernel
theorem dX10_bolts_24 : decode cX10_bolts 24 = .ok (.aload_n 0, 1) := by decide +kernel
theorem dX10_bolts_25 : decode cX10_bolts 25 = .ok (.getfield 53, 3) := by decide +kernel
theorem dX10_bolts_28 : decode cX10_bolts 28 = .ok (.aload_n 0, 1) := by decide +kernel
theorem dX10_bolts_29 : decode cX10_bolts 29 = .ok (.getfield 26, 3) := by decide +kernel
theorem dX10_bolts_32 : decode cX10_bolts 32 = .ok (.invokevirtual 184, 3) := by decide +kernel
theorem dX10_bolts_35 : decode cX10_bolts 35 = .ok (.aload_n 0, 1) := by decide +kernel
theorem dX10_bolts_36 : decode cX10_bolts 36 = .ok (.getfield 26, 3) := by decide +kernel
theorem dX10_bolts_39 : decode cX10_bolts 39 = .ok (.getfield 122, 3) := by decide +kernel
theorem dX10_bolts_42 : decode cX10_bolts 42 = .ok (.iload_n 1, 1) := by decide +kernel
theorem dX10_bolts_43 : decode cX10_bolts 43 = .ok (.iload_n 2, 1) := by decide +kernel
theorem dX10_bolts_44 : decode cX10_bolts 44 = .ok (.aload_n 0, 1) := by decide +kernel
theorem dX10_bolts_45 : decode cX10_bolts 45 = .ok (.getfield 53, 3) := by decide +kernel
theorem dX10_bolts_48 : decode cX10_bolts 48 = .ok (.invokevirtual 229, 3) := by decide +kernel
theorem dX10_bolts_51 : decode cX10_bolts 51 = .ok (.ifCond .eq 7, 3) := by decide +kernel
theorem dX10_bolts_54 : decode cX10_bolts 54 = .ok (.iconst 1, 1) := by decide +kernel
theorem dX10_bolts_55 : decode cX10_bolts 55 = .ok (.goto 4, 3) := by decide +kernel
theorem dX10_bolts_58 : decode cX10_bolts 58 = .ok (.iconst 0, 1) := by decide +kernel
theorem dX10_bolts_59 : decode cX10_bolts 59 = .ok (.ireturn, 1) := by decide +kernel
theorem dX10_held_0 : decode cX10_held 0 = .ok (.aload_n 0, 1) := by decide +kernel
theorem dX10_held_1 : decode cX10_held 1 = .ok (.getfield 19, 3) := by decide +kernel
theorem dX10_held_4 : decode cX10_held 4 = .ok (.iload_n 1, 1) := by decide +kernel
theorem dX10_held_5 : decode cX10_held 5 = .ok (.invokevirtual 165, 3) := by decide +kernel
theorem dX10_held_8 : decode cX10_held 8 = .ok (.ifCond .ne 5, 3) := by decide +kernel
theorem dX10_held_11 : decode cX10_held 11 = .ok (.iconst (-1), 1) := by decide +kernel
theorem dX10_held_12 : decode cX10_held 12 = .ok (.ireturn, 1) := by decide +kernel
theorem dX10_held_13 : decode cX10_held 13 = .ok (.aload_n 0, 1) := by decide +kernel
theorem dX10_held_14 : decode cX10_held 14 = .ok (.getfield 53, 3) := by decide +kernel
theorem dX10_held_17 : decode cX10_held 17 = .ok (.aload_n 0, 1) := by decide +kernel
theorem dX10_held_18 : decode cX10_held 18 = .ok (.getfield 26, 3) := by decide +kernel
theorem dX10_held_21 : decode cX10_held 21 = .ok (.invokevirtual 184, 3) := by decide +kernel
theorem dX10_held_24 : decode cX10_held 24 = .ok (.iload_n 2, 1) := by decide +kernel
theorem dX10_held_25 : decode cX10_held 25 = .ok (.ifCond .eq 13, 3) := by decide +kernel
theorem dX10_held_28 : decode cX10_held 28 = .ok (.aload_n 0, 1) := by decide +kernel
theorem dX10_held_29 : decode cX10_held 29 = .ok (.getfield 62, 3) := by decide +kernel
theorem dX10_held_32 : decode cX10_held 32 = .ok (.invokevirtual 232, 3) := by decide +kernel
theorem dX10_held_35 : decode cX10_held 35 = .ok (.goto 17, 3) := by decide +kernel
theorem dX10_held_38 : decode cX10_held 38 = .ok (.aload_n 0, 1) := by decide +kernel
theorem dX10_held_39 : decode cX10_held 39 = .ok (.getfield 62, 3) := by decide +kernel
theorem dX10_held_42 : decode cX10_held 42 = .ok (.aload_n 0, 1) := by decide +kernel
theorem dX10_held_43 : decode cX10_held 43 = .ok (.getfield 19, 3) := by decide +kernel
theorem dX10_held_46 : decode cX10_held 46 = .ok (.invokevirtual 235, 3) := by decide +kernel
theorem dX10_held_49 : decode cX10_held 49 = .ok (.invokevirtual 238, 3) := by decide +kernel
theorem dX10_held_52 : decode cX10_held 52 = .ok (.aload_n 0, 1) := by decide +kernel
theorem dX10_held_53 : decode cX10_held 53 = .ok (.getfield 62, 3) := by decide +kernel
theorem dX10_held_56 : decode cX10_held 56 = .ok (.getfield 242, 3) := by decide +kernel
theorem dX10_held_59 : decode cX10_held 59 = .ok (.iload_n 1, 1) := by decide +kernel
theorem dX10_held_60 : decode cX10_held 60 = .ok (.invokevirtual 177, 3) := by decide +kernel
theorem dX10_held_63 : decode cX10_held 63 = .ok (.ireturn, 1) := by decide +kernel
theorem dX10_holds_0 : decode cX10_holds 0 = .ok (.aload_n 0, 1) := by decide +kernel
theorem dX10_holds_1 : decode cX10_holds 1 = .ok (.getfield 53, 3) := by decide +kernel
theorem dX10_holds_4 : decode cX10_holds 4 = .ok (.aload_n 0, 1) := by decide +kernel
theorem dX10_holds_5 : decode cX10_holds 5 = .ok (.getfield 26, 3) := by decide +kernel
theorem dX10_holds_8 : decode cX10_holds 8 = .ok (.invokevirtual 184, 3) := by decide +kernel
theorem dX10_holds_11 : decode cX10_holds 11 = .ok (.aload_n 0, 1) := by decide +kernel
theorem dX10_holds_12 : decode cX10_holds 12 = .ok (.getfield 69, 3) := by decide +kernel
theorem dX10_holds_15 : decode cX10_holds 15 = .ok (.invokevirtual 243, 3) := by decide +kernel
theorem dX10_holds_18 : decode cX10_holds 18 = .ok (.aload_n 0, 1) := by decide +kernel
theorem dX10_holds_19 : decode cX10_holds 19 = .ok (.getfield 69, 3) := by decide +kernel
theorem dX10_holds_22 : decode cX10_holds 22 = .ok (.getfield 246, 3) := by decide +kernel
theorem dX10_holds_25 : decode cX10_holds 25 = .ok (.ireturn, 1) := by decide +kernel
theorem dX10_sure_0 : decode cX10_sure 0 = .ok (.aload_n 0, 1) := by decide +kernel
theorem dX10_sure_1 : decode cX10_sure 1 = .ok (.getfield 19, 3) := by decide +kernel
theorem dX10_sure_4 : decode cX10_sure 4 = .ok (.iload_n 1, 1) := by decide +kernel
theorem dX10_sure_5 : decode cX10_sure 5 = .ok (.invokevirtual 165, 3) := by decide +kernel
theorem dX10_sure_8 : decode cX10_sure 8 = .ok (.ifCond .ne 5, 3) := by decide +kernel
theorem dX10_sure_11 : decode cX10_sure 11 = .ok (.iconst (-1), 1) := by decide +kernel
theorem dX10_sure_12 : decode cX10_sure 12 = .ok (.ireturn, 1) := by decide +kernel
theorem dX10_sure_13 : decode cX10_sure 13 = .ok (.aload_n 0, 1) := by decide +kernel
theorem dX10_sure_14 : decode cX10_sure 14 = .ok (.getfield 53, 3) := by decide +kernel
theorem dX10_sure_17 : decode cX10_sure 17 = .ok (.aload_n 0, 1) := by decide +kernel
theorem dX10_sure_18 : decode cX10_sure 18 = .ok (.getfield 26, 3) := by decide +kernel
theorem dX10_sure_21 : decode cX10_sure 21 = .ok (.invokevirtual 184, 3) := by decide +kernel
theorem dX10_sure_24 : decode cX10_sure 24 = .ok (.aload_n 0, 1) := by decide +kernel
theorem dX10_sure_25 : decode cX10_sure 25 = .ok (.getfield 69, 3) := by decide +kernel
theorem dX10_sure_28 : decode cX10_sure 28 = .ok (.invokevirtual 243, 3) := by decide +kernel
theorem dX10_sure_31 : decode cX10_sure 31 = .ok (.aload_n 0, 1) := by decide +kernel
theorem dX10_sure_32 : decode cX10_sure 32 = .ok (.getfield 69, 3) := by decide +kernel
theorem dX10_sure_35 : decode cX10_sure 35 = .ok (.getfield 249, 3) := by decide +kernel
theorem dX10_sure_38 : decode cX10_sure 38 = .ok (.iload_n 1, 1) := by decide +kernel
theorem dX10_sure_39 : decode cX10_sure 39 = .ok (.invokestatic 252, 3) := by decide +kernel
theorem dX10_sure_42 : decode cX10_sure 42 = .ok (.ifCond .eq 6, 3) := by decide +kernel
theorem dX10_sure_45 : decode cX10_sure 45 = .ok (.bipush (-9), 2) := by decide +kernel
theorem dX10_sure_47 : decode cX10_sure 47 = .ok (.ireturn, 1) := by decide +kernel
theorem dX10_sure_48 : decode cX10_sure 48 = .ok (.aload_n 0, 1) := by decide +kernel
theorem dX10_sure_49 : decode cX10_sure 49 = .ok (.getfield 69, 3) := by decide +kernel
theorem dX10_sure_52 : decode cX10_sure 52 = .ok (.getfield 255, 3) := by decide +kernel
theorem dX10_sure_55 : decode cX10_sure 55 = .ok (.iload_n 1, 1) := by decide +kernel
theorem dX10_sure_56 : decode cX10_sure 56 = .ok (.invokevirtual 177, 3) := by decide +kernel
theorem dX10_sure_59 : decode cX10_sure 59 = .ok (.istore_n 2, 1) := by decide +kernel
theorem dX10_sure_60 : decode cX10_sure 60 = .ok (.iload_n 2, 1) := by decide +kernel
theorem dX10_sure_61 : decode cX10_sure 61 = .ok (.bipush (-9), 2) := by decide +kernel
theorem dX10_sure_63 : decode cX10_sure 63 = .ok (.if_icmp .ne 8, 3) := by decide +kernel
theorem dX10_sure_66 : decode cX10_sure 66 = .ok (.bipush 9, 2) := by decide +kernel
theorem dX10_sure_68 : decode cX10_sure 68 = .ok (.goto 4, 3) := by decide +kernel
theorem dX10_sure_71 : decode cX10_sure 71 = .ok (.iload_n 2, 1) := by decide +kernel
theorem dX10_sure_72 : decode cX10_sure 72 = .ok (.ireturn, 1) := by decide +kernel
theorem dX10_forged_0 : decode cX10_forged 0 = .ok (.aload_n 0, 1) := by decide +kernel
theorem dX10_forged_1 : decode cX10_forged 1 = .ok (.getfield 19, 3) := by decide +kernel
theorem dX10_forged_4 : decode cX10_forged 4 = .ok (.iload_n 1, 1) := by decide +kernel
theorem dX10_forged_5 : decode cX10_forged 5 = .ok (.invokevirtual 165, 3) := by decide +kernel
theorem dX10_forged_8 : decode cX10_forged 8 = .ok (.ifCond .eq 14, 3) := by decide +kernel
theorem dX10_forged_11 : decode cX10_forged 11 = .ok (.aload_n 0, 1) := by decide +kernel
theorem dX10_forged_12 : decode cX10_forged 12 = .ok (.getfield 19, 3) := by decide +kernel
theorem dX10_forged_15 : decode cX10_forged 15 = .ok (.iload_n 2, 1) := by decide +kernel
theorem dX10_forged_16 : decode cX10_forged 16 = .ok (.invokevirtual 135, 3) := by decide +kernel
theorem dX10_forged_19 : decode cX10_forged 19 = .ok (.ifCond .ne 5, 3) := by decide +kernel
theorem dX10_forged_22 : decode cX10_forged 22 = .ok (.iconst (-1), 1) := by decide +kernel
theorem dX10_forged_23 : decode cX10_forged 23 = .ok (.ireturn, 1) := by decide +kernel
theorem dX10_forged_24 : decode cX10_forged 24 = .ok (.iload_n 3, 1) := by decide +kernel
theorem dX10_forged_25 : decode cX10_forged 25 = .ok (.ifCond .eq 11, 3) := by decide +kernel
theorem dX10_forged_28 : decode cX10_forged 28 = .ok (.iload_n 3, 1) := by decide +kernel
theorem dX10_forged_29 : decode cX10_forged 29 = .ok (.iconst 1, 1) := by decide +kernel
theorem dX10_forged_30 : decode cX10_forged 30 = .ok (.if_icmp .eq 6, 3) := by decide +kernel
theorem dX10_forged_33 : decode cX10_forged 33 = .ok (.bipush (-2), 2) := by decide +kernel
theorem dX10_forged_35 : decode cX10_forged 35 = .ok (.ireturn, 1) := by decide +kernel
theorem dX10_forged_36 : decode cX10_forged 36 = .ok (.aload_n 0, 1) := by decide +kernel
theorem dX10_forged_37 : decode cX10_forged 37 = .ok (.getfield 53, 3) := by decide +kernel
theorem dX10_forged_40 : decode cX10_forged 40 = .ok (.aload_n 0, 1) := by decide +kernel
theorem dX10_forged_41 : decode cX10_forged 41 = .ok (.getfield 26, 3) := by decide +kernel
theorem dX10_forged_44 : decode cX10_forged 44 = .ok (.invokevirtual 184, 3) := by decide +kernel
theorem dX10_forged_47 : decode cX10_forged 47 = .ok (.bipush (-9), 2) := by decide +kernel
theorem dX10_forged_49 : decode cX10_forged 49 = .ok (.istore 4, 2) := by decide +kernel
theorem dX10_forged_51 : decode cX10_forged 51 = .ok (.bipush 28, 2) := by decide +kernel
theorem dX10_forged_53 : decode cX10_forged 53 = .ok (.istore 5, 2) := by decide +kernel
theorem dX10_forged_55 : decode cX10_forged 55 = .ok (.iconst 0, 1) := by decide +kernel
theorem dX10_forged_56 : decode cX10_forged 56 = .ok (.istore 6, 2) := by decide +kernel
theorem dX10_forged_58 : decode cX10_forged 58 = .ok (.iload 6, 2) := by decide +kernel
theorem dX10_forged_60 : decode cX10_forged 60 = .ok (.sipush 999, 3) := by decide +kernel
theorem dX10_forged_63 : decode cX10_forged 63 = .ok (.if_icmp .gt 57, 3) := by decide +kernel
theorem dX10_forged_66 : decode cX10_forged 66 = .ok (.iload 6, 2) := by decide +kernel
theorem dX10_forged_68 : decode cX10_forged 68 = .ok (.bipush 100, 2) := by decide +kernel
theorem dX10_forged_70 : decode cX10_forged 70 = .ok (.idiv, 1) := by decide +kernel
theorem dX10_forged_71 : decode cX10_forged 71 = .ok (.iload 6, 2) := by decide +kernel
theorem dX10_forged_73 : decode cX10_forged 73 = .ok (.bipush 10, 2) := by decide +kernel
theorem dX10_forged_75 : decode cX10_forged 75 = .ok (.idiv, 1) := by decide +kernel
theorem dX10_forged_76 : decode cX10_forged 76 = .ok (.bipush 10, 2) := by decide +kernel
theorem dX10_forged_78 : decode cX10_forged 78 = .ok (.irem, 1) := by decide +kernel
theorem dX10_forged_79 : decode cX10_forged 79 = .ok (.iadd, 1) := by decide +kernel
theorem dX10_forged_80 : decode cX10_forged 80 = .ok (.iload 6, 2) := by decide +kernel
theorem dX10_forged_82 : decode cX10_forged 82 = .ok (.bipush 10, 2) := by decide +kernel
theorem dX10_forged_84 : decode cX10_forged 84 = .ok (.irem, 1) := by decide +kernel
theorem dX10_forged_85 : decode cX10_forged 85 = .ok (.iadd, 1) := by decide +kernel
theorem dX10_forged_86 : decode cX10_forged 86 = .ok (.istore 7, 2) := by decide +kernel
theorem dX10_forged_88 : decode cX10_forged 88 = .ok (.iload 7, 2) := by decide +kernel
theorem dX10_forged_90 : decode cX10_forged 90 = .ok (.iload 5, 2) := by decide +kernel
theorem dX10_forged_92 : decode cX10_forged 92 = .ok (.if_icmp .ge 22, 3) := by decide +kernel
theorem dX10_forged_95 : decode cX10_forged 95 = .ok (.aload_n 0, 1) := by decide +kernel
theorem dX10_forged_96 : decode cX10_forged 96 = .ok (.iload_n 1, 1) := by decide +kernel
theorem dX10_forged_97 : decode cX10_forged 97 = .ok (.iload_n 2, 1) := by decide +kernel
theorem dX10_forged_98 : decode cX10_forged 98 = .ok (.iload 6, 2) := by decide +kernel
theorem dX10_forged_100 : decode cX10_forged 100 = .ok (.invokevirtual 258, 3) := by decide +kernel
theorem dX10_forged_103 : decode cX10_forged 103 = .ok (.ifCond .eq 11, 3) := by decide +kernel
theorem dX10_forged_106 : decode cX10_forged 106 = .ok (.iload 7, 2) := by decide +kernel
theorem dX10_forged_108 : decode cX10_forged 108 = .ok (.istore 5, 2) := by decide +kernel
theorem dX10_forged_110 : decode cX10_forged 110 = .ok (.iload 6, 2) := by decide +kernel
theorem dX10_forged_112 : decode cX10_forged 112 = .ok (.istore 4, 2) := by decide +kernel
theorem dX10_forged_114 : decode cX10_forged 114 = .ok (.iinc 6 1, 3) := by decide +kernel
theorem dX10_forged_117 : decode cX10_forged 117 = .ok (.goto (-59), 3) := by decide +kernel
theorem dX10_forged_120 : decode cX10_forged 120 = .ok (.iload 4, 2) := by decide +kernel
theorem dX10_forged_122 : decode cX10_forged 122 = .ok (.bipush (-9), 2) := by decide +kernel
theorem dX10_forged_124 : decode cX10_forged 124 = .ok (.if_icmp .eq 8, 3) := by decide +kernel
theorem dX10_forged_127 : decode cX10_forged 127 = .ok (.iload_n 3, 1) := by decide +kernel
theorem dX10_forged_128 : decode cX10_forged 128 = .ok (.iconst 1, 1) := by decide +kernel
theorem dX10_forged_129 : decode cX10_forged 129 = .ok (.if_icmp .ne 8, 3) := by decide +kernel
theorem dX10_forged_132 : decode cX10_forged 132 = .ok (.iload 4, 2) := by decide +kernel
theorem dX10_forged_134 : decode cX10_forged 134 = .ok (.goto 5, 3) := by decide +kernel
theorem dX10_forged_137 : decode cX10_forged 137 = .ok (.iload 5, 2) := by decide +kernel
theorem dX10_forged_139 : decode cX10_forged 139 = .ok (.ireturn, 1) := by decide +kernel
theorem dX10_left_0 : decode cX10_left 0 = .ok (.aload_n 0, 1) := by decide +kernel
theorem dX10_left_1 : decode cX10_left 1 = .ok (.getfield 53, 3) := by decide +kernel
theorem dX10_left_4 : decode cX10_left 4 = .ok (.aload_n 0, 1) := by decide +kernel
theorem dX10_left_5 : decode cX10_left 5 = .ok (.getfield 26, 3) := by decide +kernel
theorem dX10_left_8 : decode cX10_left 8 = .ok (.invokevirtual 184, 3) := by decide +kernel
theorem dX10_left_11 : decode cX10_left 11 = .ok (.aload_n 0, 1) := by decide +kernel
theorem dX10_left_12 : decode cX10_left 12 = .ok (.getfield 62, 3) := by decide +kernel
theorem dX10_left_15 : decode cX10_left 15 = .ok (.aload_n 0, 1) := by decide +kernel
theorem dX10_left_16 : decode cX10_left 16 = .ok (.getfield 19, 3) := by decide +kernel
theorem dX10_left_19 : decode cX10_left 19 = .ok (.invokevirtual 235, 3) := by decide +kernel
theorem dX10_left_22 : decode cX10_left 22 = .ok (.invokevirtual 238, 3) := by decide +kernel
theorem dX10_left_25 : decode cX10_left 25 = .ok (.iconst 0, 1) := by decide +kernel
theorem dX10_left_26 : decode cX10_left 26 = .ok (.istore_n 1, 1) := by decide +kernel
theorem dX10_left_27 : decode cX10_left 27 = .ok (.iconst 0, 1) := by decide +kernel
theorem dX10_left_28 : decode cX10_left 28 = .ok (.istore_n 2, 1) := by decide +kernel
theorem dX10_left_29 : decode cX10_left 29 = .ok (.iload_n 2, 1) := by decide +kernel
theorem dX10_left_30 : decode cX10_left 30 = .ok (.aload_n 0, 1) := by decide +kernel
theorem dX10_left_31 : decode cX10_left 31 = .ok (.getfield 19, 3) := by decide +kernel
theorem dX10_left_34 : decode cX10_left 34 = .ok (.getfield 116, 3) := by decide +kernel
theorem dX10_left_37 : decode cX10_left 37 = .ok (.if_icmp .ge 40, 3) := by decide +kernel
theorem dX10_left_40 : decode cX10_left 40 = .ok (.aload_n 0, 1) := by decide +kernel
theorem dX10_left_41 : decode cX10_left 41 = .ok (.getfield 62, 3) := by decide +kernel
theorem dX10_left_44 : decode cX10_left 44 = .ok (.getfield 242, 3) := by decide +kernel
theorem dX10_left_47 : decode cX10_left 47 = .ok (.iload_n 2, 1) := by decide +kernel
theorem dX10_left_48 : decode cX10_left 48 = .ok (.invokevirtual 262, 3) := by decide +kernel
theorem dX10_left_51 : decode cX10_left 51 = .ok (.aload_n 0, 1) := by decide +kernel
theorem dX10_left_52 : decode cX10_left 52 = .ok (.getfield 19, 3) := by decide +kernel
theorem dX10_left_55 : decode cX10_left 55 = .ok (.getfield 138, 3) := by decide +kernel
theorem dX10_left_58 : decode cX10_left 58 = .ok (.iload_n 2, 1) := by decide +kernel
theorem dX10_left_59 : decode cX10_left 59 = .ok (.invokestatic 142, 3) := by decide +kernel
theorem dX10_left_62 : decode cX10_left 62 = .ok (.if_icmp .ge 9, 3) := by decide +kernel
theorem dX10_left_65 : decode cX10_left 65 = .ok (.iload_n 1, 1) := by decide +kernel
theorem dX10_left_66 : decode cX10_left 66 = .ok (.iconst 1, 1) := by decide +kernel
theorem dX10_left_67 : decode cX10_left 67 = .ok (.iload_n 2, 1) := by decide +kernel
theorem dX10_left_68 : decode cX10_left 68 = .ok (.ishl, 1) := by decide +kernel
theorem dX10_left_69 : decode cX10_left 69 = .ok (.ior, 1) := by decide +kernel
theorem dX10_left_70 : decode cX10_left 70 = .ok (.istore_n 1, 1) := by decide +kernel
theorem dX10_left_71 : decode cX10_left 71 = .ok (.iinc 2 1, 3) := by decide +kernel
theorem dX10_left_74 : decode cX10_left 74 = .ok (.goto (-45), 3) := by decide +kernel
theorem dX10_left_77 : decode cX10_left 77 = .ok (.iload_n 1, 1) := by decide +kernel
theorem dX10_left_78 : decode cX10_left 78 = .ok (.ireturn, 1) := by decide +kernel
theorem dX10_race_0 : decode cX10_race 0 = .ok (.aload_n 0, 1) := by decide +kernel
theorem dX10_race_1 : decode cX10_race 1 = .ok (.getfield 53, 3) := by decide +kernel
theorem dX10_race_4 : decode cX10_race 4 = .ok (.aload_n 0, 1) := by decide +kernel
theorem dX10_race_5 : decode cX10_race 5 = .ok (.getfield 26, 3) := by decide +kernel
theorem dX10_race_8 : decode cX10_race 8 = .ok (.invokevirtual 184, 3) := by decide +kernel
theorem dX10_race_11 : decode cX10_race 11 = .ok (.aload_n 0, 1) := by decide +kernel
theorem dX10_race_12 : decode cX10_race 12 = .ok (.getfield 69, 3) := by decide +kernel
theorem dX10_race_15 : decode cX10_race 15 = .ok (.invokevirtual 265, 3) := by decide +kernel
theorem dX10_race_18 : decode cX10_race 18 = .ok (.aload_n 0, 1) := by decide +kernel
theorem dX10_race_19 : decode cX10_race 19 = .ok (.getfield 69, 3) := by decide +kernel
theorem dX10_race_22 : decode cX10_race 22 = .ok (.getfield 268, 3) := by decide +kernel
theorem dX10_race_25 : decode cX10_race 25 = .ok (.ireturn, 1) := by decide +kernel
theorem dX10_raceOf_0 : decode cX10_raceOf 0 = .ok (.aload_n 0, 1) := by decide +kernel
theorem dX10_raceOf_1 : decode cX10_raceOf 1 = .ok (.getfield 19, 3) := by decide +kernel
theorem dX10_raceOf_4 : decode cX10_raceOf 4 = .ok (.iload_n 1, 1) := by decide +kernel
theorem dX10_raceOf_5 : decode cX10_raceOf 5 = .ok (.invokevirtual 165, 3) := by decide +kernel
theorem dX10_raceOf_8 : decode cX10_raceOf 8 = .ok (.ifCond .ne 5, 3) := by decide +kernel
theorem dX10_raceOf_11 : decode cX10_raceOf 11 = .ok (.iconst (-1), 1) := by decide +kernel
theorem dX10_raceOf_12 : decode cX10_raceOf 12 = .ok (.ireturn, 1) := by decide +kernel
theorem dX10_raceOf_13 : decode cX10_raceOf 13 = .ok (.aload_n 0, 1) := by decide +kernel
theorem dX10_raceOf_14 : decode cX10_raceOf 14 = .ok (.getfield 53, 3) := by decide +kernel
theorem dX10_raceOf_17 : decode cX10_raceOf 17 = .ok (.aload_n 0, 1) := by decide +kernel
theorem dX10_raceOf_18 : decode cX10_raceOf 18 = .ok (.getfield 26, 3) := by decide +kernel
theorem dX10_raceOf_21 : decode cX10_raceOf 21 = .ok (.invokevirtual 184, 3) := by decide +kernel
theorem dX10_raceOf_24 : decode cX10_raceOf 24 = .ok (.aload_n 0, 1) := by decide +kernel
theorem dX10_raceOf_25 : decode cX10_raceOf 25 = .ok (.getfield 69, 3) := by decide +kernel
theorem dX10_raceOf_28 : decode cX10_raceOf 28 = .ok (.invokevirtual 265, 3) := by decide +kernel
theorem dX10_raceOf_31 : decode cX10_raceOf 31 = .ok (.aload_n 0, 1) := by decide +kernel
theorem dX10_raceOf_32 : decode cX10_raceOf 32 = .ok (.getfield 69, 3) := by decide +kernel
theorem dX10_raceOf_35 : decode cX10_raceOf 35 = .ok (.getfield 255, 3) := by decide +kernel
theorem dX10_raceOf_38 : decode cX10_raceOf 38 = .ok (.iload_n 1, 1) := by decide +kernel
theorem dX10_raceOf_39 : decode cX10_raceOf 39 = .ok (.invokevirtual 177, 3) := by decide +kernel
theorem dX10_raceOf_42 : decode cX10_raceOf 42 = .ok (.istore_n 2, 1) := by decide +kernel
theorem dX10_raceOf_43 : decode cX10_raceOf 43 = .ok (.iload_n 2, 1) := by decide +kernel
theorem dX10_raceOf_44 : decode cX10_raceOf 44 = .ok (.bipush (-9), 2) := by decide +kernel
theorem dX10_raceOf_46 : decode cX10_raceOf 46 = .ok (.if_icmp .ne 8, 3) := by decide +kernel
theorem dX10_raceOf_49 : decode cX10_raceOf 49 = .ok (.bipush 9, 2) := by decide +kernel
theorem dX10_raceOf_51 : decode cX10_raceOf 51 = .ok (.goto 4, 3) := by decide +kernel
theorem dX10_raceOf_54 : decode cX10_raceOf 54 = .ok (.iload_n 2, 1) := by decide +kernel
theorem dX10_raceOf_55 : decode cX10_raceOf 55 = .ok (.ireturn, 1) := by decide +kernel
theorem dX10_choose_0 : decode cX10_choose 0 = .ok (.aload_n 0, 1) := by decide +kernel
theorem dX10_choose_1 : decode cX10_choose 1 = .ok (.getfield 19, 3) := by decide +kernel
theorem dX10_choose_4 : decode cX10_choose 4 = .ok (.iload_n 1, 1) := by decide +kernel
theorem dX10_choose_5 : decode cX10_choose 5 = .ok (.invokevirtual 165, 3) := by decide +kernel
theorem dX10_choose_8 : decode cX10_choose 8 = .ok (.ifCond .eq 14, 3) := by decide +kernel
theorem dX10_choose_11 : decode cX10_choose 11 = .ok (.aload_n 0, 1) := by decide +kernel
theorem dX10_choose_12 : decode cX10_choose 12 = .ok (.getfield 19, 3) := by decide +kernel
theorem dX10_choose_15 : decode cX10_choose 15 = .ok (.iload_n 2, 1) := by decide +kernel
theorem dX10_choose_16 : decode cX10_choose 16 = .ok (.invokevirtual 165, 3) := by decide +kernel
theorem dX10_choose_19 : decode cX10_choose 19 = .ok (.ifCond .ne 5, 3) := by decide +kernel
theorem dX10_choose_22 : decode cX10_choose 22 = .ok (.iconst (-1), 1) := by decide +kernel
theorem dX10_choose_23 : decode cX10_choose 23 = .ok (.ireturn, 1) := by decide +kernel
theorem dX10_choose_24 : decode cX10_choose 24 = .ok (.iload_n 1, 1) := by decide +kernel
theorem dX10_choose_25 : decode cX10_choose 25 = .ok (.iload_n 2, 1) := by decide +kernel
theorem dX10_choose_26 : decode cX10_choose 26 = .ok (.if_icmp .ne 6, 3) := by decide +kernel
theorem dX10_choose_29 : decode cX10_choose 29 = .ok (.bipush (-2), 2) := by decide +kernel
theorem dX10_choose_31 : decode cX10_choose 31 = .ok (.ireturn, 1) := by decide +kernel
theorem dX10_choose_32 : decode cX10_choose 32 = .ok (.aload_n 0, 1) := by decide +kernel
theorem dX10_choose_33 : decode cX10_choose 33 = .ok (.getfield 44, 3) := by decide +kernel
theorem dX10_choose_36 : decode cX10_choose 36 = .ok (.iload_n 1, 1) := by decide +kernel
theorem dX10_choose_37 : decode cX10_choose 37 = .ok (.iload_n 2, 1) := by decide +kernel
theorem dX10_choose_38 : decode cX10_choose 38 = .ok (.invokevirtual 271, 3) := by decide +kernel
theorem dX10_choose_41 : decode cX10_choose 41 = .ok (.ifCond .eq 13, 3) := by decide +kernel
theorem dX10_choose_44 : decode cX10_choose 44 = .ok (.aload_n 0, 1) := by decide +kernel
theorem dX10_choose_45 : decode cX10_choose 45 = .ok (.getfield 44, 3) := by decide +kernel
theorem dX10_choose_48 : decode cX10_choose 48 = .ok (.getfield 131, 3) := by decide +kernel
theorem dX10_choose_51 : decode cX10_choose 51 = .ok (.goto 5, 3) := by decide +kernel
theorem dX10_choose_54 : decode cX10_choose 54 = .ok (.bipush (-4), 2) := by decide +kernel
theorem dX10_choose_56 : decode cX10_choose 56 = .ok (.ireturn, 1) := by decide +kernel
theorem dX10_unchoose_0 : decode cX10_unchoose 0 = .ok (.aload_n 0, 1) := by decide +kernel
theorem dX10_unchoose_1 : decode cX10_unchoose 1 = .ok (.getfield 44, 3) := by decide +kernel
theorem dX10_unchoose_4 : decode cX10_unchoose 4 = .ok (.getfield 131, 3) := by decide +kernel
theorem dX10_unchoose_7 : decode cX10_unchoose 7 = .ok (.istore_n 1, 1) := by decide +kernel
theorem dX10_unchoose_8 : decode cX10_unchoose 8 = .ok (.aload_n 0, 1) := by decide +kernel
theorem dX10_unchoose_9 : decode cX10_unchoose 9 = .ok (.getfield 44, 3) := by decide +kernel
theorem dX10_unchoose_12 : decode cX10_unchoose 12 = .ok (.iconst 0, 1) := by decide +kernel
theorem dX10_unchoose_13 : decode cX10_unchoose 13 = .ok (.putfield 131, 3) := by decide +kernel
theorem dX10_unchoose_16 : decode cX10_unchoose 16 = .ok (.iload_n 1, 1) := by decide +kernel
theorem dX10_unchoose_17 : decode cX10_unchoose 17 = .ok (.ireturn, 1) := by decide +kernel
theorem dX10_learnt_0 : decode cX10_learnt 0 = .ok (.iload_n 1, 1) := by decide +kernel
theorem dX10_learnt_1 : decode cX10_learnt 1 = .ok (.ifCond .eq 11, 3) := by decide +kernel
theorem dX10_learnt_4 : decode cX10_learnt 4 = .ok (.iload_n 1, 1) := by decide +kernel
theorem dX10_learnt_5 : decode cX10_learnt 5 = .ok (.iconst 1, 1) := by decide +kernel
theorem dX10_learnt_6 : decode cX10_learnt 6 = .ok (.if_icmp .eq 6, 3) := by decide +kernel
theorem dX10_learnt_9 : decode cX10_learnt 9 = .ok (.bipush (-2), 2) := by decide +kernel
theorem dX10_learnt_11 : decode cX10_learnt 11 = .ok (.ireturn, 1) := by decide +kernel
theorem dX10_learnt_12 : decode cX10_learnt 12 = .ok (.aload_n 0, 1) := by decide +kernel
theorem dX10_learnt_13 : decode cX10_learnt 13 = .ok (.getfield 44, 3) := by decide +kernel
theorem dX10_learnt_16 : decode cX10_learnt 16 = .ok (.aload_n 0, 1) := by decide +kernel
theorem dX10_learnt_17 : decode cX10_learnt 17 = .ok (.getfield 19, 3) := by decide +kernel
theorem dX10_learnt_20 : decode cX10_learnt 20 = .ok (.invokevirtual 273, 3) := by decide +kernel
theorem dX10_learnt_23 : decode cX10_learnt 23 = .ok (.lstore_n 2, 1) := by decide +kernel
theorem dX10_learnt_24 : decode cX10_learnt 24 = .ok (.iload_n 1, 1) := by decide +kernel
theorem dX10_learnt_25 : decode cX10_learnt 25 = .ok (.ifCond .ne 10, 3) := by decide +kernel
theorem dX10_learnt_28 : decode cX10_learnt 28 = .ok (.lload_n 2, 1) := by decide +kernel
theorem dX10_learnt_29 : decode cX10_learnt 29 = .ok (.invokestatic 277, 3) := by decide +kernel
theorem dX10_learnt_32 : decode cX10_learnt 32 = .ok (.goto 7, 3) := by decide +kernel
theorem dX10_learnt_35 : decode cX10_learnt 35 = .ok (.lload_n 2, 1) := by decide +kernel
theorem dX10_learnt_36 : decode cX10_learnt 36 = .ok (.invokestatic 283, 3) := by decide +kernel
theorem dX10_learnt_39 : decode cX10_learnt 39 = .ok (.ireturn, 1) := by decide +kernel
theorem dX10_next_0 : decode cX10_next 0 = .ok (.aload_n 0, 1) := by decide +kernel
theorem dX10_next_1 : decode cX10_next 1 = .ok (.getfield 44, 3) := by decide +kernel
theorem dX10_next_4 : decode cX10_next 4 = .ok (.aload_n 0, 1) := by decide +kernel
theorem dX10_next_5 : decode cX10_next 5 = .ok (.getfield 19, 3) := by decide +kernel
theorem dX10_next_8 : decode cX10_next 8 = .ok (.invokevirtual 273, 3) := by decide +kernel
theorem dX10_next_11 : decode cX10_next 11 = .ok (.lstore_n 1, 1) := by decide +kernel
theorem dX10_next_12 : decode cX10_next 12 = .ok (.lload_n 1, 1) := by decide +kernel
theorem dX10_next_13 : decode cX10_next 13 = .ok (.lconst 0, 1) := by decide +kernel
theorem dX10_next_14 : decode cX10_next 14 = .ok (.lcmp, 1) := by decide +kernel
theorem dX10_next_15 : decode cX10_next 15 = .ok (.ifCond .ne 6, 3) := by decide +kernel
theorem dX10_next_18 : decode cX10_next 18 = .ok (.bipush (-9), 2) := by decide +kernel
theorem dX10_next_20 : decode cX10_next 20 = .ok (.ireturn, 1) := by decide +kernel
theorem dX10_next_21 : decode cX10_next 21 = .ok (.lload_n 1, 1) := by decide +kernel
theorem dX10_next_22 : decode cX10_next 22 = .ok (.invokestatic 277, 3) := by decide +kernel
theorem dX10_next_25 : decode cX10_next 25 = .ok (.istore_n 3, 1) := by decide +kernel
theorem dX10_next_26 : decode cX10_next 26 = .ok (.iload_n 3, 1) := by decide +kernel
theorem dX10_next_27 : decode cX10_next 27 = .ok (.iconst 1, 1) := by decide +kernel
theorem dX10_next_28 : decode cX10_next 28 = .ok (.iadd, 1) := by decide +kernel
theorem dX10_next_29 : decode cX10_next 29 = .ok (.istore 4, 2) := by decide +kernel
theorem dX10_next_31 : decode cX10_next 31 = .ok (.bipush (-9), 2) := by decide +kernel
theorem dX10_next_33 : decode cX10_next 33 = .ok (.istore 5, 2) := by decide +kernel
theorem dX10_next_35 : decode cX10_next 35 = .ok (.iconst 0, 1) := by decide +kernel
theorem dX10_next_36 : decode cX10_next 36 = .ok (.istore 6, 2) := by decide +kernel
theorem dX10_next_38 : decode cX10_next 38 = .ok (.iload 6, 2) := by decide +kernel
theorem dX10_next_40 : decode cX10_next 40 = .ok (.aload_n 0, 1) := by decide +kernel
theorem dX10_next_41 : decode cX10_next 41 = .ok (.getfield 19, 3) := by decide +kernel
theorem dX10_next_44 : decode cX10_next 44 = .ok (.getfield 119, 3) := by decide +kernel
theorem dX10_next_47 : decode cX10_next 47 = .ok (.if_icmp .ge 87, 3) := by decide +kernel
theorem dX10_next_50 : decode cX10_next 50 = .ok (.iload 6, 2) := by decide +kernel
theorem dX10_next_52 : decode cX10_next 52 = .ok (.iconst 1, 1) := by decide +kernel
theorem dX10_next_53 : decode cX10_next 53 = .ok (.iadd, 1) := by decide +kernel
theorem dX10_next_54 : decode cX10_next 54 = .ok (.istore 7, 2) := by decide +kernel
theorem dX10_next_56 : decode cX10_next 56 = .ok (.iload 7, 2) := by decide +kernel
theorem dX10_next_58 : decode cX10_next 58 = .ok (.aload_n 0, 1) := by decide +kernel
theorem dX10_next_59 : decode cX10_next 59 = .ok (.getfield 19, 3) := by decide +kernel
theorem dX10_next_62 : decode cX10_next 62 = .ok (.getfield 119, 3) := by decide +kernel
theorem dX10_next_65 : decode cX10_next 65 = .ok (.if_icmp .ge 63, 3) := by decide +kernel
theorem dX10_next_68 : decode cX10_next 68 = .ok (.lload_n 1, 1) := by decide +kernel
theorem dX10_next_69 : decode cX10_next 69 = .ok (.aload_n 0, 1) := by decide +kernel
theorem dX10_next_70 : decode cX10_next 70 = .ok (.getfield 44, 3) := by decide +kernel
theorem dX10_next_73 : decode cX10_next 73 = .ok (.aload_n 0, 1) := by decide +kernel
theorem dX10_next_74 : decode cX10_next 74 = .ok (.getfield 19, 3) := by decide +kernel
theorem dX10_next_77 : decode cX10_next 77 = .ok (.iload 6, 2) := by decide +kernel
theorem dX10_next_79 : decode cX10_next 79 = .ok (.iload 7, 2) := by decide +kernel
theorem dX10_next_81 : decode cX10_next 81 = .ok (.invokevirtual 286, 3) := by decide +kernel
theorem dX10_next_84 : decode cX10_next 84 = .ok (.land, 1) := by decide +kernel
theorem dX10_next_85 : decode cX10_next 85 = .ok (.invokestatic 277, 3) := by decide +kernel
theorem dX10_next_88 : decode cX10_next 88 = .ok (.istore 8, 2) := by decide +kernel
theorem dX10_next_90 : decode cX10_next 90 = .ok (.iload 8, 2) := by decide +kernel
theorem dX10_next_92 : decode cX10_next 92 = .ok (.iload_n 3, 1) := by decide +kernel
theorem dX10_next_93 : decode cX10_next 93 = .ok (.iload 8, 2) := by decide +kernel
theorem dX10_next_95 : decode cX10_next 95 = .ok (.isub, 1) := by decide +kernel
theorem dX10_next_96 : decode cX10_next 96 = .ok (.invokestatic 290, 3) := by decide +kernel
theorem dX10_next_99 : decode cX10_next 99 = .ok (.istore 9, 2) := by decide +kernel
theorem dX10_next_101 : decode cX10_next 101 = .ok (.iload 9, 2) := by decide +kernel
theorem dX10_next_103 : decode cX10_next 103 = .ok (.iload 4, 2) := by decide +kernel
theorem dX10_next_105 : decode cX10_next 105 = .ok (.if_icmp .ge 17, 3) := by decide +kernel
theorem dX10_next_108 : decode cX10_next 108 = .ok (.iload 9, 2) := by decide +kernel
theorem dX10_next_110 : decode cX10_next 110 = .ok (.istore 4, 2) := by decide +kernel
theorem dX10_next_112 : decode cX10_next 112 = .ok (.bipush 10, 2) := by decide +kernel
theorem dX10_next_114 : decode cX10_next 114 = .ok (.iload 6, 2) := by decide +kernel
theorem dX10_next_116 : decode cX10_next 116 = .ok (.imul, 1) := by decide +kernel
theorem dX10_next_117 : decode cX10_next 117 = .ok (.iload 7, 2) := by decide +kernel
theorem dX10_next_119 : decode cX10_next 119 = .ok (.iadd, 1) := by decide +kernel
theorem dX10_next_120 : decode cX10_next 120 = .ok (.istore 5, 2) := by decide +kernel
theorem dX10_next_122 : decode cX10_next 122 = .ok (.iinc 7 1, 3) := by decide +kernel
theorem dX10_next_125 : decode cX10_next 125 = .ok (.goto (-69), 3) := by decide +kernel
theorem dX10_next_128 : decode cX10_next 128 = .ok (.iinc 6 1, 3) := by decide +kernel
theorem dX10_next_131 : decode cX10_next 131 = .ok (.goto (-93), 3) := by decide +kernel
theorem dX10_next_134 : decode cX10_next 134 = .ok (.iload 5, 2) := by decide +kernel
theorem dX10_next_136 : decode cX10_next 136 = .ok (.ireturn, 1) := by decide +kernel
theorem dX10_oats_0 : decode cX10_oats 0 = .ok (.aload_n 0, 1) := by decide +kernel
theorem dX10_oats_1 : decode cX10_oats 1 = .ok (.getfield 19, 3) := by decide +kernel
theorem dX10_oats_4 : decode cX10_oats 4 = .ok (.iload_n 1, 1) := by decide +kernel
theorem dX10_oats_5 : decode cX10_oats 5 = .ok (.invokevirtual 135, 3) := by decide +kernel
theorem dX10_oats_8 : decode cX10_oats 8 = .ok (.ifCond .eq 25, 3) := by decide +kernel
theorem dX10_oats_11 : decode cX10_oats 11 = .ok (.aload_n 0, 1) := by decide +kernel
theorem dX10_oats_12 : decode cX10_oats 12 = .ok (.getfield 19, 3) := by decide +kernel
theorem dX10_oats_15 : decode cX10_oats 15 = .ok (.iload_n 2, 1) := by decide +kernel
theorem dX10_oats_16 : decode cX10_oats 16 = .ok (.invokevirtual 165, 3) := by decide +kernel
theorem dX10_oats_19 : decode cX10_oats 19 = .ok (.ifCond .eq 14, 3) := by decide +kernel
theorem dX10_oats_22 : decode cX10_oats 22 = .ok (.aload_n 0, 1) := by decide +kernel
theorem dX10_oats_23 : decode cX10_oats 23 = .ok (.getfield 19, 3) := by decide +kernel
theorem dX10_oats_26 : decode cX10_oats 26 = .ok (.iload_n 3, 1) := by decide +kernel
theorem dX10_oats_27 : decode cX10_oats 27 = .ok (.invokevirtual 165, 3) := by decide +kernel
theorem dX10_oats_30 : decode cX10_oats 30 = .ok (.ifCond .ne 5, 3) := by decide +kernel
theorem dX10_oats_33 : decode cX10_oats 33 = .ok (.iconst (-1), 1) := by decide +kernel
theorem dX10_oats_34 : decode cX10_oats 34 = .ok (.ireturn, 1) := by decide +kernel
theorem dX10_oats_35 : decode cX10_oats 35 = .ok (.iload_n 2, 1) := by decide +kernel
theorem dX10_oats_36 : decode cX10_oats 36 = .ok (.iload_n 3, 1) := by decide +kernel
theorem dX10_oats_37 : decode cX10_oats 37 = .ok (.if_icmp .eq 14, 3) := by decide +kernel
theorem dX10_oats_40 : decode cX10_oats 40 = .ok (.iload 4, 2) := by decide +kernel
theorem dX10_oats_42 : decode cX10_oats 42 = .ok (.ifCond .eq 12, 3) := by decide +kernel
theorem dX10_oats_45 : decode cX10_oats 45 = .ok (.iload 4, 2) := by decide +kernel
theorem dX10_oats_47 : decode cX10_oats 47 = .ok (.iconst 1, 1) := by decide +kernel
theorem dX10_oats_48 : decode cX10_oats 48 = .ok (.if_icmp .eq 6, 3) := by decide +kernel
theorem dX10_oats_51 : decode cX10_oats 51 = .ok (.bipush (-2), 2) := by decide +kernel
theorem dX10_oats_53 : decode cX10_oats 53 = .ok (.ireturn, 1) := by decide +kernel
theorem dX10_oats_54 : decode cX10_oats 54 = .ok (.aload_n 0, 1) := by decide +kernel
theorem dX10_oats_55 : decode cX10_oats 55 = .ok (.getfield 53, 3) := by decide +kernel
theorem dX10_oats_58 : decode cX10_oats 58 = .ok (.aload_n 0, 1) := by decide +kernel
theorem dX10_oats_59 : decode cX10_oats 59 = .ok (.getfield 26, 3) := by decide +kernel
theorem dX10_oats_62 : decode cX10_oats 62 = .ok (.invokevirtual 184, 3) := by decide +kernel
theorem dX10_oats_65 : decode cX10_oats 65 = .ok (.aload_n 0, 1) := by decide +kernel
theorem dX10_oats_66 : decode cX10_oats 66 = .ok (.getfield 76, 3) := by decide +kernel
theorem dX10_oats_69 : decode cX10_oats 69 = .ok (.aload_n 0, 1) := by decide +kernel
theorem dX10_oats_70 : decode cX10_oats 70 = .ok (.getfield 53, 3) := by decide +kernel
theorem dX10_oats_73 : decode cX10_oats 73 = .ok (.iload_n 1, 1) := by decide +kernel
theorem dX10_oats_74 : decode cX10_oats 74 = .ok (.iload_n 2, 1) := by decide +kernel
theorem dX10_oats_75 : decode cX10_oats 75 = .ok (.invokevirtual 188, 3) := by decide +kernel
theorem dX10_oats_78 : decode cX10_oats 78 = .ok (.aload_n 0, 1) := by decide +kernel
theorem dX10_oats_79 : decode cX10_oats 79 = .ok (.getfield 53, 3) := by decide +kernel
theorem dX10_oats_82 : decode cX10_oats 82 = .ok (.iload_n 1, 1) := by decide +kernel
theorem dX10_oats_83 : decode cX10_oats 83 = .ok (.iload_n 3, 1) := by decide +kernel
theorem dX10_oats_84 : decode cX10_oats 84 = .ok (.invokevirtual 188, 3) := by decide +kernel
theorem dX10_oats_87 : decode cX10_oats 87 = .ok (.iload_n 2, 1) := by decide +kernel
theorem dX10_oats_88 : decode cX10_oats 88 = .ok (.iload_n 3, 1) := by decide +kernel
theorem dX10_oats_89 : decode cX10_oats 89 = .ok (.if_icmp .ge 7, 3) := by decide +kernel
theorem dX10_oats_92 : decode cX10_oats 92 = .ok (.iconst 1, 1) := by decide +kernel
theorem dX10_oats_93 : decode cX10_oats 93 = .ok (.goto 4, 3) := by decide +kernel
theorem dX10_oats_96 : decode cX10_oats 96 = .ok (.iconst 0, 1) := by decide +kernel
theorem dX10_oats_97 : decode cX10_oats 97 = .ok (.invokevirtual 295, 3) := by decide +kernel
theorem dX10_oats_100 : decode cX10_oats 100 = .ok (.iload 4, 2) := by decide +kernel
theorem dX10_oats_102 : decode cX10_oats 102 = .ok (.ifCond .ne 13, 3) := by decide +kernel
theorem dX10_oats_105 : decode cX10_oats 105 = .ok (.aload_n 0, 1) := by decide +kernel
theorem dX10_oats_106 : decode cX10_oats 106 = .ok (.getfield 76, 3) := by decide +kernel
theorem dX10_oats_109 : decode cX10_oats 109 = .ok (.getfield 299, 3) := by decide +kernel
theorem dX10_oats_112 : decode cX10_oats 112 = .ok (.goto 10, 3) := by decide +kernel
theorem dX10_oats_115 : decode cX10_oats 115 = .ok (.aload_n 0, 1) := by decide +kernel
theorem dX10_oats_116 : decode cX10_oats 116 = .ok (.getfield 76, 3) := by decide +kernel
theorem dX10_oats_119 : decode cX10_oats 119 = .ok (.getfield 302, 3) := by decide +kernel
theorem dX10_oats_122 : decode cX10_oats 122 = .ok (.ireturn, 1) := by decide +kernel
theorem dX10_saddles_0 : decode cX10_saddles 0 = .ok (.aload_n 0, 1) := by decide +kernel
theorem dX10_saddles_1 : decode cX10_saddles 1 = .ok (.getfield 19, 3) := by decide +kernel
theorem dX10_saddles_4 : decode cX10_saddles 4 = .ok (.iload_n 1, 1) := by decide +kernel
theorem dX10_saddles_5 : decode cX10_saddles 5 = .ok (.invokevirtual 135, 3) := by decide +kernel
theorem dX10_saddles_8 : decode cX10_saddles 8 = .ok (.ifCond .ne 5, 3) := by decide +kernel
theorem dX10_saddles_11 : decode cX10_saddles 11 = .ok (.iconst (-1), 1) := by decide +kernel
theorem dX10_saddles_12 : decode cX10_saddles 12 = .ok (.ireturn, 1) := by decide +kernel
theorem dX10_saddles_13 : decode cX10_saddles 13 = .ok (.iload_n 2, 1) := by decide +kernel
theorem dX10_saddles_14 : decode cX10_saddles 14 = .ok (.invokestatic 198, 3) := by decide +kernel
theorem dX10_saddles_17 : decode cX10_saddles 17 = .ok (.ifCond .eq 24, 3) := by decide +kernel
theorem dX10_saddles_20 : decode cX10_saddles 20 = .ok (.iload_n 3, 1) := by decide +kernel
theorem dX10_saddles_21 : decode cX10_saddles 21 = .ok (.ifCond .lt 20, 3) := by decide +kernel
theorem dX10_saddles_24 : decode cX10_saddles 24 = .ok (.iload_n 3, 1) := by decide +kernel
theorem dX10_saddles_25 : decode cX10_saddles 25 = .ok (.bipush 27, 2) := by decide +kernel
theorem dX10_saddles_27 : decode cX10_saddles 27 = .ok (.if_icmp .gt 14, 3) := by decide +kernel
theorem dX10_saddles_30 : decode cX10_saddles 30 = .ok (.iload 4, 2) := by decide +kernel
theorem dX10_saddles_32 : decode cX10_saddles 32 = .ok (.ifCond .eq 12, 3) := by decide +kernel
theorem dX10_saddles_35 : decode cX10_saddles 35 = .ok (.iload 4, 2) := by decide +kernel
theorem dX10_saddles_37 : decode cX10_saddles 37 = .ok (.iconst 1, 1) := by decide +kernel
theorem dX10_saddles_38 : decode cX10_saddles 38 = .ok (.if_icmp .eq 6, 3) := by decide +kernel
theorem dX10_saddles_41 : decode cX10_saddles 41 = .ok (.bipush (-2), 2) := by decide +kernel
theorem dX10_saddles_43 : decode cX10_saddles 43 = .ok (.ireturn, 1) := by decide +kernel
theorem dX10_saddles_44 : decode cX10_saddles 44 = .ok (.aload_n 0, 1) := by decide +kernel
theorem dX10_saddles_45 : decode cX10_saddles 45 = .ok (.getfield 53, 3) := by decide +kernel
theorem dX10_saddles_48 : decode cX10_saddles 48 = .ok (.aload_n 0, 1) := by decide +kernel
theorem dX10_saddles_49 : decode cX10_saddles 49 = .ok (.getfield 26, 3) := by decide +kernel
theorem dX10_saddles_52 : decode cX10_saddles 52 = .ok (.invokevirtual 184, 3) := by decide +kernel
theorem dX10_saddles_55 : decode cX10_saddles 55 = .ok (.iconst 0, 1) := by decide +kernel
theorem dX10_saddles_56 : decode cX10_saddles 56 = .ok (.istore 5, 2) := by decide +kernel
theorem dX10_saddles_58 : decode cX10_saddles 58 = .ok (.aload_n 0, 1) := by decide +kernel
theorem dX10_saddles_59 : decode cX10_saddles 59 = .ok (.getfield 19, 3) := by decide +kernel
theorem dX10_saddles_62 : decode cX10_saddles 62 = .ok (.invokevirtual 235, 3) := by decide +kernel
theorem dX10_saddles_65 : decode cX10_saddles 65 = .ok (.istore 6, 2) := by decide +kernel
theorem dX10_saddles_67 : decode cX10_saddles 67 = .ok (.iconst 0, 1) := by decide +kernel
theorem dX10_saddles_68 : decode cX10_saddles 68 = .ok (.istore 7, 2) := by decide +kernel
theorem dX10_saddles_70 : decode cX10_saddles 70 = .ok (.iload 7, 2) := by decide +kernel
theorem dX10_saddles_72 : decode cX10_saddles 72 = .ok (.aload_n 0, 1) := by decide +kernel
theorem dX10_saddles_73 : decode cX10_saddles 73 = .ok (.getfield 19, 3) := by decide +kernel
theorem dX10_saddles_76 : decode cX10_saddles 76 = .ok (.invokevirtual 235, 3) := by decide +kernel
theorem dX10_saddles_79 : decode cX10_saddles 79 = .ok (.if_icmp .gt 40, 3) := by decide +kernel
theorem dX10_saddles_82 : decode cX10_saddles 82 = .ok (.aload_n 0, 1) := by decide +kernel
theorem dX10_saddles_83 : decode cX10_saddles 83 = .ok (.iload 7, 2) := by decide +kernel
theorem dX10_saddles_85 : decode cX10_saddles 85 = .ok (.iload_n 1, 1) := by decide +kernel
theorem dX10_saddles_86 : decode cX10_saddles 86 = .ok (.invokevirtual 305, 3) := by decide +kernel
theorem dX10_saddles_89 : decode cX10_saddles 89 = .ok (.ifCond .eq 24, 3) := by decide +kernel
theorem dX10_saddles_92 : decode cX10_saddles 92 = .ok (.aload_n 0, 1) := by decide +kernel
theorem dX10_saddles_93 : decode cX10_saddles 93 = .ok (.iload 7, 2) := by decide +kernel
theorem dX10_saddles_95 : decode cX10_saddles 95 = .ok (.iload_n 2, 1) := by decide +kernel
theorem dX10_saddles_96 : decode cX10_saddles 96 = .ok (.invokevirtual 308, 3) := by decide +kernel
theorem dX10_saddles_99 : decode cX10_saddles 99 = .ok (.iload_n 3, 1) := by decide +kernel
theorem dX10_saddles_100 : decode cX10_saddles 100 = .ok (.if_icmp .ne 13, 3) := by decide +kernel
theorem dX10_saddles_103 : decode cX10_saddles 103 = .ok (.iinc 5 1, 3) := by decide +kernel
theorem dX10_saddles_106 : decode cX10_saddles 106 = .ok (.iload 6, 2) := by decide +kernel
theorem dX10_saddles_108 : decode cX10_saddles 108 = .ok (.iload 7, 2) := by decide +kernel
theorem dX10_saddles_110 : decode cX10_saddles 110 = .ok (.iand, 1) := by decide +kernel
theorem dX10_saddles_111 : decode cX10_saddles 111 = .ok (.istore 6, 2) := by decide +kernel
theorem dX10_saddles_113 : decode cX10_saddles 113 = .ok (.iinc 7 1, 3) := by decide +kernel
theorem dX10_saddles_116 : decode cX10_saddles 116 = .ok (.goto (-46), 3) := by decide +kernel
theorem dX10_saddles_119 : decode cX10_saddles 119 = .ok (.iload 4, 2) := by decide +kernel
theorem dX10_saddles_121 : decode cX10_saddles 121 = .ok (.ifCond .ne 6, 3) := by decide +kernel
theorem dX10_saddles_124 : decode cX10_saddles 124 = .ok (.iload 5, 2) := by decide +kernel
theorem dX10_saddles_126 : decode cX10_saddles 126 = .ok (.ireturn, 1) := by decide +kernel
theorem dX10_saddles_127 : decode cX10_saddles 127 = .ok (.iload 5, 2) := by decide +kernel
theorem dX10_saddles_129 : decode cX10_saddles 129 = .ok (.ifCond .ne 8, 3) := by decide +kernel
theorem dX10_saddles_132 : decode cX10_saddles 132 = .ok (.bipush (-9), 2) := by decide +kernel
theorem dX10_saddles_134 : decode cX10_saddles 134 = .ok (.goto 5, 3) := by decide +kernel
theorem dX10_saddles_137 : decode cX10_saddles 137 = .ok (.iload 6, 2) := by decide +kernel
theorem dX10_saddles_139 : decode cX10_saddles 139 = .ok (.ireturn, 1) := by decide +kernel
theorem dX10_chance_0 : decode cX10_chance 0 = .ok (.aload_n 0, 1) := by decide +kernel
theorem dX10_chance_1 : decode cX10_chance 1 = .ok (.getfield 19, 3) := by decide +kernel
theorem dX10_chance_4 : decode cX10_chance 4 = .ok (.iload_n 1, 1) := by decide +kernel
theorem dX10_chance_5 : decode cX10_chance 5 = .ok (.invokevirtual 165, 3) := by decide +kernel
theorem dX10_chance_8 : decode cX10_chance 8 = .ok (.ifCond .eq 14, 3) := by decide +kernel
theorem dX10_chance_11 : decode cX10_chance 11 = .ok (.aload_n 0, 1) := by decide +kernel
theorem dX10_chance_12 : decode cX10_chance 12 = .ok (.getfield 19, 3) := by decide +kernel
theorem dX10_chance_15 : decode cX10_chance 15 = .ok (.iload_n 2, 1) := by decide +kernel
theorem dX10_chance_16 : decode cX10_chance 16 = .ok (.invokevirtual 135, 3) := by decide +kernel
theorem dX10_chance_19 : decode cX10_chance 19 = .ok (.ifCond .ne 5, 3) := by decide +kernel
theorem dX10_chance_22 : decode cX10_chance 22 = .ok (.iconst (-1), 1) := by decide +kernel
theorem dX10_chance_23 : decode cX10_chance 23 = .ok (.ireturn, 1) := by decide +kernel
theorem dX10_chance_24 : decode cX10_chance 24 = .ok (.iload_n 3, 1) := by decide +kernel
theorem dX10_chance_25 : decode cX10_chance 25 = .ok (.ifCond .lt 9, 3) := by decide +kernel
theorem dX10_chance_28 : decode cX10_chance 28 = .ok (.iload_n 3, 1) := by decide +kernel
theorem dX10_chance_29 : decode cX10_chance 29 = .ok (.bipush 10, 2) := by decide +kernel
theorem dX10_chance_31 : decode cX10_chance 31 = .ok (.if_icmp .le 6, 3) := by decide +kernel
theorem dX10_chance_34 : decode cX10_chance 34 = .ok (.bipush (-2), 2) := by decide +kernel
theorem dX10_chance_36 : decode cX10_chance 36 = .ok (.ireturn, 1) := by decide +kernel
theorem dX10_chance_37 : decode cX10_chance 37 = .ok (.aload_n 0, 1) := by decide +kernel
theorem dX10_chance_38 : decode cX10_chance 38 = .ok (.getfield 53, 3) := by decide +kernel
theorem dX10_chance_41 : decode cX10_chance 41 = .ok (.aload_n 0, 1) := by decide +kernel
theorem dX10_chance_42 : decode cX10_chance 42 = .ok (.getfield 26, 3) := by decide +kernel
theorem dX10_chance_45 : decode cX10_chance 45 = .ok (.invokevirtual 184, 3) := by decide +kernel
theorem dX10_chance_48 : decode cX10_chance 48 = .ok (.iconst 0, 1) := by decide +kernel
theorem dX10_chance_49 : decode cX10_chance 49 = .ok (.istore 5, 2) := by decide +kernel
theorem dX10_chance_51 : decode cX10_chance 51 = .ok (.iconst 1, 1) := by decide +kernel
theorem dX10_chance_52 : decode cX10_chance 52 = .ok (.istore 6, 2) := by decide +kernel
theorem dX10_chance_54 : decode cX10_chance 54 = .ok (.iconst 0, 1) := by decide +kernel
theorem dX10_chance_55 : decode cX10_chance 55 = .ok (.istore 7, 2) := by decide +kernel
theorem dX10_chance_57 : decode cX10_chance 57 = .ok (.iload 7, 2) := by decide +kernel
theorem dX10_chance_59 : decode cX10_chance 59 = .ok (.aload_n 0, 1) := by decide +kernel
theorem dX10_chance_60 : decode cX10_chance 60 = .ok (.getfield 19, 3) := by decide +kernel
theorem dX10_chance_63 : decode cX10_chance 63 = .ok (.getfield 119, 3) := by decide +kernel
theorem dX10_chance_66 : decode cX10_chance 66 = .ok (.if_icmp .ge 16, 3) := by decide +kernel
theorem dX10_chance_69 : decode cX10_chance 69 = .ok (.iload 6, 2) := by decide +kernel
theorem dX10_chance_71 : decode cX10_chance 71 = .ok (.bipush 10, 2) := by decide +kernel
theorem dX10_chance_73 : decode cX10_chance 73 = .ok (.imul, 1) := by decide +kernel
theorem dX10_chance_74 : decode cX10_chance 74 = .ok (.istore 6, 2) := by decide +kernel
theorem dX10_chance_76 : decode cX10_chance 76 = .ok (.iinc 7 1, 3) := by decide +kernel
theorem dX10_chance_79 : decode cX10_chance 79 = .ok (.goto (-22), 3) := by decide +kernel
theorem dX10_chance_82 : decode cX10_chance 82 = .ok (.iconst 0, 1) := by decide +kernel
theorem dX10_chance_83 : decode cX10_chance 83 = .ok (.istore 7, 2) := by decide +kernel
theorem dX10_chance_85 : decode cX10_chance 85 = .ok (.iload 7, 2) := by decide +kernel
theorem dX10_chance_87 : decode cX10_chance 87 = .ok (.aload_n 0, 1) := by decide +kernel
theorem dX10_chance_88 : decode cX10_chance 88 = .ok (.getfield 19, 3) := by decide +kernel
theorem dX10_chance_91 : decode cX10_chance 91 = .ok (.invokevirtual 235, 3) := by decide +kernel
theorem dX10_chance_94 : decode cX10_chance 94 = .ok (.if_icmp .gt 54, 3) := by decide +kernel
theorem dX10_chance_97 : decode cX10_chance 97 = .ok (.iload 7, 2) := by decide +kernel
theorem dX10_chance_99 : decode cX10_chance 99 = .ok (.iload_n 1, 1) := by decide +kernel
theorem dX10_chance_100 : decode cX10_chance 100 = .ok (.invokestatic 252, 3) := by decide +kernel
theorem dX10_chance_103 : decode cX10_chance 103 = .ok (.ifCond .eq 39, 3) := by decide +kernel
theorem dX10_chance_106 : decode cX10_chance 106 = .ok (.aload_n 0, 1) := by decide +kernel
theorem dX10_chance_107 : decode cX10_chance 107 = .ok (.getfield 62, 3) := by decide +kernel
theorem dX10_chance_110 : decode cX10_chance 110 = .ok (.iload 7, 2) := by decide +kernel
theorem dX10_chance_112 : decode cX10_chance 112 = .ok (.invokevirtual 238, 3) := by decide +kernel
theorem dX10_chance_115 : decode cX10_chance 115 = .ok (.aload_n 0, 1) := by decide +kernel
theorem dX10_chance_116 : decode cX10_chance 116 = .ok (.getfield 62, 3) := by decide +kernel
theorem dX10_chance_119 : decode cX10_chance 119 = .ok (.getfield 242, 3) := by decide +kernel
theorem dX10_chance_122 : decode cX10_chance 122 = .ok (.iload_n 1, 1) := by decide +kernel
theorem dX10_chance_123 : decode cX10_chance 123 = .ok (.invokevirtual 177, 3) := by decide +kernel
theorem dX10_chance_126 : decode cX10_chance 126 = .ok (.iload_n 2, 1) := by decide +kernel
theorem dX10_chance_127 : decode cX10_chance 127 = .ok (.if_icmp .ne 15, 3) := by decide +kernel
theorem dX10_chance_130 : decode cX10_chance 130 = .ok (.iload 5, 2) := by decide +kernel
theorem dX10_chance_132 : decode cX10_chance 132 = .ok (.aload_n 0, 1) := by decide +kernel
theorem dX10_chance_133 : decode cX10_chance 133 = .ok (.iload 7, 2) := by decide +kernel
theorem dX10_chance_135 : decode cX10_chance 135 = .ok (.iload_n 3, 1) := by decide +kernel
theorem dX10_chance_136 : decode cX10_chance 136 = .ok (.invokevirtual 311, 3) := by decide +kernel
theorem dX10_chance_139 : decode cX10_chance 139 = .ok (.iadd, 1) := by decide +kernel
theorem dX10_chance_140 : decode cX10_chance 140 = .ok (.istore 5, 2) := by decide +kernel
theorem dX10_chance_142 : decode cX10_chance 142 = .ok (.iinc 7 1, 3) := by decide +kernel
theorem dX10_chance_145 : decode cX10_chance 145 = .ok (.goto (-60), 3) := by decide +kernel
theorem dX10_chance_148 : decode cX10_chance 148 = .ok (.iconst 1, 1) := by decide +kernel
theorem dX10_chance_149 : decode cX10_chance 149 = .ok (.iload 5, 2) := by decide +kernel
theorem dX10_chance_151 : decode cX10_chance 151 = .ok (.iload 6, 2) := by decide +kernel
theorem dX10_chance_153 : decode cX10_chance 153 = .ok (.invokestatic 314, 3) := by decide +kernel
theorem dX10_chance_156 : decode cX10_chance 156 = .ok (.invokestatic 290, 3) := by decide +kernel
theorem dX10_chance_159 : decode cX10_chance 159 = .ok (.istore 7, 2) := by decide +kernel
theorem dX10_chance_161 : decode cX10_chance 161 = .ok (.iload 4, 2) := by decide +kernel
theorem dX10_chance_163 : decode cX10_chance 163 = .ok (.ifCond .eq 8, 3) := by decide +kernel
theorem dX10_chance_166 : decode cX10_chance 166 = .ok (.iload 5, 2) := by decide +kernel
theorem dX10_chance_168 : decode cX10_chance 168 = .ok (.goto 5, 3) := by decide +kernel
theorem dX10_chance_171 : decode cX10_chance 171 = .ok (.iload 6, 2) := by decide +kernel
theorem dX10_chance_173 : decode cX10_chance 173 = .ok (.iload 7, 2) := by decide +kernel
theorem dX10_chance_175 : decode cX10_chance 175 = .ok (.idiv, 1) := by decide +kernel
theorem dX10_chance_176 : decode cX10_chance 176 = .ok (.ireturn, 1) := by decide +kernel
theorem dX10_seed_0 : decode cX10_seed 0 = .ok (.aload_n 0, 1) := by decide +kernel
theorem dX10_seed_1 : decode cX10_seed 1 = .ok (.getfield 87, 3) := by decide +kernel
theorem dX10_seed_4 : decode cX10_seed 4 = .ok (.lstore_n 3, 1) := by decide +kernel
theorem dX10_seed_5 : decode cX10_seed 5 = .ok (.aload_n 0, 1) := by decide +kernel
theorem dX10_seed_6 : decode cX10_seed 6 = .ok (.lload_n 1, 1) := by decide +kernel
theorem dX10_seed_7 : decode cX10_seed 7 = .ok (.putfield 87, 3) := by decide +kernel
theorem dX10_seed_10 : decode cX10_seed 10 = .ok (.lload_n 3, 1) := by decide +kernel
theorem dX10_seed_11 : decode cX10_seed 11 = .ok (.lreturn, 1) := by decide +kernel
theorem dX10_days_0 : decode cX10_days 0 = .ok (.iload_n 1, 1) := by decide +kernel
theorem dX10_days_1 : decode cX10_days 1 = .ok (.iconst 1, 1) := by decide +kernel
theorem dX10_days_2 : decode cX10_days 2 = .ok (.if_icmp .lt 9, 3) := by decide +kernel
theorem dX10_days_5 : decode cX10_days 5 = .ok (.iload_n 1, 1) := by decide +kernel
theorem dX10_days_6 : decode cX10_days 6 = .ok (.bipush 40, 2) := by decide +kernel
theorem dX10_days_8 : decode cX10_days 8 = .ok (.if_icmp .le 6, 3) := by decide +kernel
theorem dX10_days_11 : decode cX10_days 11 = .ok (.bipush (-2), 2) := by decide +kernel
theorem dX10_days_13 : decode cX10_days 13 = .ok (.ireturn, 1) := by decide +kernel
theorem dX10_days_14 : decode cX10_days 14 = .ok (.aload_n 0, 1) := by decide +kernel
theorem dX10_days_15 : decode cX10_days 15 = .ok (.getfield 19, 3) := by decide +kernel
theorem dX10_days_18 : decode cX10_days 18 = .ok (.getfield 119, 3) := by decide +kernel
theorem dX10_days_21 : decode cX10_days 21 = .ok (.aload_n 0, 1) := by decide +kernel
theorem dX10_days_22 : decode cX10_days 22 = .ok (.getfield 19, 3) := by decide +kernel
theorem dX10_days_25 : decode cX10_days 25 = .ok (.getfield 116, 3) := by decide +kernel
theorem dX10_days_28 : decode cX10_days 28 = .ok (.imul, 1) := by decide +kernel
theorem dX10_days_29 : decode cX10_days 29 = .ok (.istore_n 2, 1) := by decide +kernel
theorem dX10_days_30 : decode cX10_days 30 = .ok (.iload_n 2, 1) := by decide +kernel
theorem dX10_days_31 : decode cX10_days 31 = .ok (.ifCond .gt 5, 3) := by decide +kernel
theorem dX10_days_34 : decode cX10_days 34 = .ok (.iconst 0, 1) := by decide +kernel
theorem dX10_days_35 : decode cX10_days 35 = .ok (.ireturn, 1) := by decide +kernel
theorem dX10_days_36 : decode cX10_days 36 = .ok (.iconst 1, 1) := by decide +kernel
theorem dX10_days_37 : decode cX10_days 37 = .ok (.aload_n 0, 1) := by decide +kernel
theorem dX10_days_38 : decode cX10_days 38 = .ok (.getfield 19, 3) := by decide +kernel
theorem dX10_days_41 : decode cX10_days 41 = .ok (.getfield 116, 3) := by decide +kernel
theorem dX10_days_44 : decode cX10_days 44 = .ok (.invokestatic 290, 3) := by decide +kernel
theorem dX10_days_47 : decode cX10_days 47 = .ok (.istore_n 3, 1) := by decide +kernel
theorem dX10_days_48 : decode cX10_days 48 = .ok (.aload_n 0, 1) := by decide +kernel
theorem dX10_days_49 : decode cX10_days 49 = .ok (.getfield 53, 3) := by decide +kernel
theorem dX10_days_52 : decode cX10_days 52 = .ok (.aload_n 0, 1) := by decide +kernel
theorem dX10_days_53 : decode cX10_days 53 = .ok (.getfield 26, 3) := by decide +kernel
theorem dX10_days_56 : decode cX10_days 56 = .ok (.invokevirtual 184, 3) := by decide +kernel
theorem dX10_days_59 : decode cX10_days 59 = .ok (.aload_n 0, 1) := by decide +kernel
theorem dX10_days_60 : decode cX10_days 60 = .ok (.getfield 83, 3) := by decide +kernel
theorem dX10_days_63 : decode cX10_days 63 = .ok (.aload_n 0, 1) := by decide +kernel
theorem dX10_days_64 : decode cX10_days 64 = .ok (.getfield 26, 3) := by decide +kernel
theorem dX10_days_67 : decode cX10_days 67 = .ok (.getfield 122, 3) := by decide +kernel
theorem dX10_days_70 : decode cX10_days 70 = .ok (.invokevirtual 317, 3) := by decide +kernel
theorem dX10_days_73 : decode cX10_days 73 = .ok (.iconst 0, 1) := by decide +kernel
theorem dX10_days_74 : decode cX10_days 74 = .ok (.istore 4, 2) := by decide +kernel
theorem dX10_days_76 : decode cX10_days 76 = .ok (.iload 4, 2) := by decide +kernel
theorem dX10_days_78 : decode cX10_days 78 = .ok (.iload_n 1, 1) := by decide +kernel
theorem dX10_days_79 : decode cX10_days 79 = .ok (.if_icmp .ge 76, 3) := by decide +kernel
theorem dX10_days_82 : decode cX10_days 82 = .ok (.aload_n 0, 1) := by decide +kernel
theorem dX10_days_83 : decode cX10_days 83 = .ok (.aload_n 0, 1) := by decide +kernel
theorem dX10_days_84 : decode cX10_days 84 = .ok (.getfield 87, 3) := by decide +kernel
theorem dX10_days_87 : decode cX10_days 87 = .ok (.ldc2_w 321, 3) := by decide +kernel
theorem dX10_days_90 : decode cX10_days 90 = .ok (.lmul, 1) := by decide +kernel
theorem dX10_days_91 : decode cX10_days 91 = .ok (.ldc2_w 323, 3) := by decide +kernel
theorem dX10_days_94 : decode cX10_days 94 = .ok (.ladd, 1) := by decide +kernel
theorem dX10_days_95 : decode cX10_days 95 = .ok (.putfield 87, 3) := by decide +kernel
theorem dX10_days_98 : decode cX10_days 98 = .ok (.aload_n 0, 1) := by decide +kernel
theorem dX10_days_99 : decode cX10_days 99 = .ok (.getfield 87, 3) := by decide +kernel
theorem dX10_days_102 : decode cX10_days 102 = .ok (.bipush 33, 2) := by decide +kernel
theorem dX10_days_104 : decode cX10_days 104 = .ok (.lushr, 1) := by decide +kernel
theorem dX10_days_105 : decode cX10_days 105 = .ok (.iload_n 2, 1) := by decide +kernel
theorem dX10_days_106 : decode cX10_days 106 = .ok (.i2l, 1) := by decide +kernel
theorem dX10_days_107 : decode cX10_days 107 = .ok (.lrem, 1) := by decide +kernel
theorem dX10_days_108 : decode cX10_days 108 = .ok (.l2i, 1) := by decide +kernel
theorem dX10_days_109 : decode cX10_days 109 = .ok (.istore 5, 2) := by decide +kernel
theorem dX10_days_111 : decode cX10_days 111 = .ok (.iload 5, 2) := by decide +kernel
theorem dX10_days_113 : decode cX10_days 113 = .ok (.iload_n 3, 1) := by decide +kernel
theorem dX10_days_114 : decode cX10_days 114 = .ok (.idiv, 1) := by decide +kernel
theorem dX10_days_115 : decode cX10_days 115 = .ok (.istore 6, 2) := by decide +kernel
theorem dX10_days_117 : decode cX10_days 117 = .ok (.aload_n 0, 1) := by decide +kernel
theorem dX10_days_118 : decode cX10_days 118 = .ok (.getfield 83, 3) := by decide +kernel
theorem dX10_days_121 : decode cX10_days 121 = .ok (.iload 6, 2) := by decide +kernel
theorem dX10_days_123 : decode cX10_days 123 = .ok (.invokevirtual 177, 3) := by decide +kernel
theorem dX10_days_126 : decode cX10_days 126 = .ok (.bipush (-9), 2) := by decide +kernel
theorem dX10_days_128 : decode cX10_days 128 = .ok (.if_icmp .ne 21, 3) := by decide +kernel
theorem dX10_days_131 : decode cX10_days 131 = .ok (.aload_n 0, 1) := by decide +kernel
theorem dX10_days_132 : decode cX10_days 132 = .ok (.getfield 83, 3) := by decide +kernel
theorem dX10_days_135 : decode cX10_days 135 = .ok (.iload 6, 2) := by decide +kernel
theorem dX10_days_137 : decode cX10_days 137 = .ok (.iload 5, 2) := by decide +kernel
theorem dX10_days_139 : decode cX10_days 139 = .ok (.iload_n 3, 1) := by decide +kernel
theorem dX10_days_140 : decode cX10_days 140 = .ok (.irem, 1) := by decide +kernel
theorem dX10_days_141 : decode cX10_days 141 = .ok (.aload_n 0, 1) := by decide +kernel
theorem dX10_days_142 : decode cX10_days 142 = .ok (.getfield 53, 3) := by decide +kernel
theorem dX10_days_145 : decode cX10_days 145 = .ok (.invokevirtual 194, 3) := by decide +kernel
theorem dX10_days_148 : decode cX10_days 148 = .ok (.pop, 1) := by decide +kernel
theorem dX10_days_149 : decode cX10_days 149 = .ok (.iinc 4 1, 3) := by decide +kernel
theorem dX10_days_152 : decode cX10_days 152 = .ok (.goto (-76), 3) := by decide +kernel
theorem dX10_days_155 : decode cX10_days 155 = .ok (.aload_n 0, 1) := by decide +kernel
theorem dX10_days_156 : decode cX10_days 156 = .ok (.getfield 83, 3) := by decide +kernel
theorem dX10_days_159 : decode cX10_days 159 = .ok (.invokevirtual 125, 3) := by decide +kernel
theorem dX10_days_162 : decode cX10_days 162 = .ok (.ireturn, 1) := by decide +kernel
theorem dX10_keep_0 : decode cX10_keep 0 = .ok (.aload_n 0, 1) := by decide +kernel
theorem dX10_keep_1 : decode cX10_keep 1 = .ok (.iload_n 1, 1) := by decide +kernel
theorem dX10_keep_2 : decode cX10_keep 2 = .ok (.invokevirtual 325, 3) := by decide +kernel
theorem dX10_keep_5 : decode cX10_keep 5 = .ok (.astore_n 2, 1) := by decide +kernel
theorem dX10_keep_6 : decode cX10_keep 6 = .ok (.aload_n 2, 1) := by decide +kernel
theorem dX10_keep_7 : decode cX10_keep 7 = .ok (.ifnonnull 5, 3) := by decide +kernel
theorem dX10_keep_10 : decode cX10_keep 10 = .ok (.iconst (-1), 1) := by decide +kernel
theorem dX10_keep_11 : decode cX10_keep 11 = .ok (.ireturn, 1) := by decide +kernel
theorem dX10_keep_12 : decode cX10_keep 12 = .ok (.aload_n 2, 1) := by decide +kernel
theorem dX10_keep_13 : decode cX10_keep 13 = .ok (.aload_n 0, 1) := by decide +kernel
theorem dX10_keep_14 : decode cX10_keep 14 = .ok (.getfield 26, 3) := by decide +kernel
theorem dX10_keep_17 : decode cX10_keep 17 = .ok (.invokevirtual 329, 3) := by decide +kernel
theorem dX10_keep_20 : decode cX10_keep 20 = .ok (.aload_n 2, 1) := by decide +kernel
theorem dX10_keep_21 : decode cX10_keep 21 = .ok (.iconst 1, 1) := by decide +kernel
theorem dX10_keep_22 : decode cX10_keep 22 = .ok (.putfield 331, 3) := by decide +kernel
theorem dX10_keep_25 : decode cX10_keep 25 = .ok (.aload_n 0, 1) := by decide +kernel
theorem dX10_keep_26 : decode cX10_keep 26 = .ok (.getfield 26, 3) := by decide +kernel
theorem dX10_keep_29 : decode cX10_keep 29 = .ok (.getfield 122, 3) := by decide +kernel
theorem dX10_keep_32 : decode cX10_keep 32 = .ok (.invokevirtual 125, 3) := by decide +kernel
theorem dX10_keep_35 : decode cX10_keep 35 = .ok (.invokestatic 335, 3) := by decide +kernel
theorem dX10_keep_38 : decode cX10_keep 38 = .ok (.ireturn, 1) := by decide +kernel
theorem dX10_again_0 : decode cX10_again 0 = .ok (.aload_n 0, 1) := by decide +kernel
theorem dX10_again_1 : decode cX10_again 1 = .ok (.iload_n 1, 1) := by decide +kernel
theorem dX10_again_2 : decode cX10_again 2 = .ok (.invokevirtual 325, 3) := by decide +kernel
theorem dX10_again_5 : decode cX10_again 5 = .ok (.astore_n 2, 1) := by decide +kernel
theorem dX10_again_6 : decode cX10_again 6 = .ok (.aload_n 2, 1) := by decide +kernel
theorem dX10_again_7 : decode cX10_again 7 = .ok (.ifnonnull 5, 3) := by decide +kernel
theorem dX10_again_10 : decode cX10_again 10 = .ok (.iconst (-1), 1) := by decide +kernel
theorem dX10_again_11 : decode cX10_again 11 = .ok (.ireturn, 1) := by decide +kernel
theorem dX10_again_12 : decode cX10_again 12 = .ok (.aload_n 2, 1) := by decide +kernel
theorem dX10_again_13 : decode cX10_again 13 = .ok (.getfield 331, 3) := by decide +kernel
theorem dX10_again_16 : decode cX10_again 16 = .ok (.ifCond .ne 6, 3) := by decide +kernel
theorem dX10_again_19 : decode cX10_again 19 = .ok (.bipush (-3), 2) := by decide +kernel
theorem dX10_again_21 : decode cX10_again 21 = .ok (.ireturn, 1) := by decide +kernel
theorem dX10_again_22 : decode cX10_again 22 = .ok (.aload_n 0, 1) := by decide +kernel
theorem dX10_again_23 : decode cX10_again 23 = .ok (.getfield 26, 3) := by decide +kernel
theorem dX10_again_26 : decode cX10_again 26 = .ok (.aload_n 2, 1) := by decide +kernel
theorem dX10_again_27 : decode cX10_again 27 = .ok (.invokevirtual 329, 3) := by decide +kernel
theorem dX10_again_30 : decode cX10_again 30 = .ok (.aload_n 0, 1) := by decide +kernel
theorem dX10_again_31 : decode cX10_again 31 = .ok (.getfield 33, 3) := by decide +kernel
theorem dX10_again_34 : decode cX10_again 34 = .ok (.iconst 0, 1) := by decide +kernel
theorem dX10_again_35 : decode cX10_again 35 = .ok (.putfield 110, 3) := by decide +kernel
theorem dX10_again_38 : decode cX10_again 38 = .ok (.aload_n 0, 1) := by decide +kernel
theorem dX10_again_39 : decode cX10_again 39 = .ok (.getfield 26, 3) := by decide +kernel
theorem dX10_again_42 : decode cX10_again 42 = .ok (.getfield 122, 3) := by decide +kernel
theorem dX10_again_45 : decode cX10_again 45 = .ok (.invokevirtual 125, 3) := by decide +kernel
theorem dX10_again_48 : decode cX10_again 48 = .ok (.invokestatic 335, 3) := by decide +kernel
theorem dX10_again_51 : decode cX10_again 51 = .ok (.ireturn, 1) := by decide +kernel
theorem dX10_at_0 : decode cX10_at 0 = .ok (.iload_n 1, 1) := by decide +kernel
theorem dX10_at_1 : decode cX10_at 1 = .ok (.ifCond .lt 15, 3) := by decide +kernel
theorem dX10_at_4 : decode cX10_at 4 = .ok (.iload_n 1, 1) := by decide +kernel
theorem dX10_at_5 : decode cX10_at 5 = .ok (.aload_n 0, 1) := by decide +kernel
theorem dX10_at_6 : decode cX10_at 6 = .ok (.arraylength, 1) := by decide +kernel
theorem dX10_at_7 : decode cX10_at 7 = .ok (.if_icmp .ge 9, 3) := by decide +kernel
theorem dX10_at_10 : decode cX10_at 10 = .ok (.aload_n 0, 1) := by decide +kernel
theorem dX10_at_11 : decode cX10_at 11 = .ok (.iload_n 1, 1) := by decide +kernel
theorem dX10_at_12 : decode cX10_at 12 = .ok (.iaload, 1) := by decide +kernel
theorem dX10_at_13 : decode cX10_at 13 = .ok (.goto 4, 3) := by decide +kernel
theorem dX10_at_16 : decode cX10_at 16 = .ok (.iconst 0, 1) := by decide +kernel
theorem dX10_at_17 : decode cX10_at 17 = .ok (.ireturn, 1) := by decide +kernel
theorem dX10_put_0 : decode cX10_put 0 = .ok (.iload_n 1, 1) := by decide +kernel
theorem dX10_put_1 : decode cX10_put 1 = .ok (.ifCond .lt 13, 3) := by decide +kernel
theorem dX10_put_4 : decode cX10_put 4 = .ok (.iload_n 1, 1) := by decide +kernel
theorem dX10_put_5 : decode cX10_put 5 = .ok (.aload_n 0, 1) := by decide +kernel
theorem dX10_put_6 : decode cX10_put 6 = .ok (.arraylength, 1) := by decide +kernel
theorem dX10_put_7 : decode cX10_put 7 = .ok (.if_icmp .ge 7, 3) := by decide +kernel
theorem dX10_put_10 : decode cX10_put 10 = .ok (.aload_n 0, 1) := by decide +kernel
theorem dX10_put_11 : decode cX10_put 11 = .ok (.iload_n 1, 1) := by decide +kernel
theorem dX10_put_12 : decode cX10_put 12 = .ok (.iload_n 2, 1) := by decide +kernel
theorem dX10_put_13 : decode cX10_put 13 = .ok (.iastore, 1) := by decide +kernel
theorem dX10_put_14 : decode cX10_put 14 = .ok (.return_, 1) := by decide +kernel
theorem dX10_contains_0 : decode cX10_contains 0 = .ok (.iload_n 0, 1) := by decide +kernel
theorem dX10_contains_1 : decode cX10_contains 1 = .ok (.iload_n 1, 1) := by decide +kernel
theorem dX10_contains_2 : decode cX10_contains 2 = .ok (.ishr, 1) := by decide +kernel
theorem dX10_contains_3 : decode cX10_contains 3 = .ok (.iconst 1, 1) := by decide +kernel
theorem dX10_contains_4 : decode cX10_contains 4 = .ok (.iand, 1) := by decide +kernel
theorem dX10_contains_5 : decode cX10_contains 5 = .ok (.iconst 1, 1) := by decide +kernel
theorem dX10_contains_6 : decode cX10_contains 6 = .ok (.if_icmp .ne 7, 3) := by decide +kernel
theorem dX10_contains_9 : decode cX10_contains 9 = .ok (.iconst 1, 1) := by decide +kernel
theorem dX10_contains_10 : decode cX10_contains 10 = .ok (.goto 4, 3) := by decide +kernel
theorem dX10_contains_13 : decode cX10_contains 13 = .ok (.iconst 0, 1) := by decide +kernel
theorem dX10_contains_14 : decode cX10_contains 14 = .ok (.ireturn, 1) := by decide +kernel
theorem dX10_isTrait_0 : decode cX10_isTrait 0 = .ok (.iload_n 0, 1) := by decide +kernel
theorem dX10_isTrait_1 : decode cX10_isTrait 1 = .ok (.ifCond .lt 12, 3) := by decide +kernel
theorem dX10_isTrait_4 : decode cX10_isTrait 4 = .ok (.iload_n 0, 1) := by decide +kernel
theorem dX10_isTrait_5 : decode cX10_isTrait 5 = .ok (.iconst 3, 1) := by decide +kernel
theorem dX10_isTrait_6 : decode cX10_isTrait 6 = .ok (.if_icmp .ge 7, 3) := by decide +kernel
theorem dX10_isTrait_9 : decode cX10_isTrait 9 = .ok (.iconst 1, 1) := by decide +kernel
theorem dX10_isTrait_10 : decode cX10_isTrait 10 = .ok (.goto 4, 3) := by decide +kernel
theorem dX10_isTrait_13 : decode cX10_isTrait 13 = .ok (.iconst 0, 1) := by decide +kernel
theorem dX10_isTrait_14 : decode cX10_isTrait 14 = .ok (.ireturn, 1) := by decide +kernel
theorem dX10_asFigures_0 : decode cX10_asFigures 0 = .ok (.iconst 3, 1) := by decide +kernel
theorem dX10_asFigures_1 : decode cX10_asFigures 1 = .ok (.iload_n 1, 1) := by decide +kernel
theorem dX10_asFigures_2 : decode cX10_asFigures 2 = .ok (.imul, 1) := by decide +kernel
theorem dX10_asFigures_3 : decode cX10_asFigures 3 = .ok (.istore_n 2, 1) := by decide +kernel
theorem dX10_asFigures_4 : decode cX10_asFigures 4 = .ok (.bipush 100, 2) := by decide +kernel
theorem dX10_asFigures_6 : decode cX10_asFigures 6 = .ok (.aload_n 0, 1) := by decide +kernel
theorem dX10_asFigures_7 : decode cX10_asFigures 7 = .ok (.iload_n 2, 1) := by decide +kernel
theorem dX10_asFigures_8 : decode cX10_asFigures 8 = .ok (.invokestatic 142, 3) := by decide +kernel
theorem dX10_asFigures_11 : decode cX10_asFigures 11 = .ok (.imul, 1) := by decide +kernel
theorem dX10_asFigures_12 : decode cX10_asFigures 12 = .ok (.bipush 10, 2) := by decide +kernel
theorem dX10_asFigures_14 : decode cX10_asFigures 14 = .ok (.aload_n 0, 1) := by decide +kernel
theorem dX10_asFigures_15 : decode cX10_asFigures 15 = .ok (.iload_n 2, 1) := by decide +kernel
theorem dX10_asFigures_16 : decode cX10_asFigures 16 = .ok (.iconst 1, 1) := by decide +kernel
theorem dX10_asFigures_17 : decode cX10_asFigures 17 = .ok (.iadd, 1) := by decide +kernel
theorem dX10_asFigures_18 : decode cX10_asFigures 18 = .ok (.invokestatic 142, 3) := by decide +kernel
theorem dX10_asFigures_21 : decode cX10_asFigures 21 = .ok (.imul, 1) := by decide +kernel
theorem dX10_asFigures_22 : decode cX10_asFigures 22 = .ok (.iadd, 1) := by decide +kernel
theorem dX10_asFigures_23 : decode cX10_asFigures 23 = .ok (.aload_n 0, 1) := by decide +kernel
theorem dX10_asFigures_24 : decode cX10_asFigures 24 = .ok (.iload_n 2, 1) := by decide +kernel
theorem dX10_asFigures_25 : decode cX10_asFigures 25 = .ok (.iconst 2, 1) := by decide +kernel
theorem dX10_asFigures_26 : decode cX10_asFigures 26 = .ok (.iadd, 1) := by decide +kernel
theorem dX10_asFigures_27 : decode cX10_asFigures 27 = .ok (.invokestatic 142, 3) := by decide +kernel
theorem dX10_asFigures_30 : decode cX10_asFigures 30 = .ok (.iadd, 1) := by decide +kernel
theorem dX10_asFigures_31 : decode cX10_asFigures 31 = .ok (.ireturn, 1) := by decide +kernel
theorem dX10_greatestDivisor_0 : decode cX10_greatestDivisor 0 = .ok (.iload_n 0, 1) := by decide +kernel
theorem dX10_greatestDivisor_1 : decode cX10_greatestDivisor 1 = .ok (.istore_n 2, 1) := by decide +kernel
theorem dX10_greatestDivisor_2 : decode cX10_greatestDivisor 2 = .ok (.iload_n 1, 1) := by decide +kernel
theorem dX10_greatestDivisor_3 : decode cX10_greatestDivisor 3 = .ok (.istore_n 3, 1) := by decide +kernel
theorem dX10_greatestDivisor_4 : decode cX10_greatestDivisor 4 = .ok (.iconst 0, 1) := by decide +kernel
theorem dX10_greatestDivisor_5 : decode cX10_greatestDivisor 5 = .ok (.istore 4, 2) := by decide +kernel
theorem dX10_greatestDivisor_7 : decode cX10_greatestDivisor 7 = .ok (.iload 4, 2) := by decide +kernel
theorem dX10_greatestDivisor_9 : decode cX10_greatestDivisor 9 = .ok (.bipush 64, 2) := by decide +kernel
theorem dX10_greatestDivisor_11 : decode cX10_greatestDivisor 11 = .ok (.if_icmp .ge 23, 3) := by decide +kernel
theorem dX10_greatestDivisor_14 : decode cX10_greatestDivisor 14 = .ok (.iload_n 3, 1) := by decide +kernel
theorem dX10_greatestDivisor_15 : decode cX10_greatestDivisor 15 = .ok (.ifCond .eq 19, 3) := by decide +kernel
theorem dX10_greatestDivisor_18 : decode cX10_greatestDivisor 18 = .ok (.iload_n 2, 1) := by decide +kernel
theorem dX10_greatestDivisor_19 : decode cX10_greatestDivisor 19 = .ok (.iload_n 3, 1) := by decide +kernel
theorem dX10_greatestDivisor_20 : decode cX10_greatestDivisor 20 = .ok (.irem, 1) := by decide +kernel
theorem dX10_greatestDivisor_21 : decode cX10_greatestDivisor 21 = .ok (.istore 5, 2) := by decide +kernel
theorem dX10_greatestDivisor_23 : decode cX10_greatestDivisor 23 = .ok (.iload_n 3, 1) := by decide +kernel
theorem dX10_greatestDivisor_24 : decode cX10_greatestDivisor 24 = .ok (.istore_n 2, 1) := by decide +kernel
theorem dX10_greatestDivisor_25 : decode cX10_greatestDivisor 25 = .ok (.iload 5, 2) := by decide +kernel
theorem dX10_greatestDivisor_27 : decode cX10_greatestDivisor 27 = .ok (.istore_n 3, 1) := by decide +kernel
theorem dX10_greatestDivisor_28 : decode cX10_greatestDivisor 28 = .ok (.iinc 4 1, 3) := by decide +kernel
theorem dX10_greatestDivisor_31 : decode cX10_greatestDivisor 31 = .ok (.goto (-24), 3) := by decide +kernel
theorem dX10_greatestDivisor_34 : decode cX10_greatestDivisor 34 = .ok (.iload_n 2, 1) := by decide +kernel
theorem dX10_greatestDivisor_35 : decode cX10_greatestDivisor 35 = .ok (.ireturn, 1) := by decide +kernel
theorem dX10_shown_0 : decode cX10_shown 0 = .ok (.iconst 3, 1) := by decide +kernel
theorem dX10_shown_1 : decode cX10_shown 1 = .ok (.iload_n 1, 1) := by decide +kernel
theorem dX10_shown_2 : decode cX10_shown 2 = .ok (.imul, 1) := by decide +kernel
theorem dX10_shown_3 : decode cX10_shown 3 = .ok (.iload_n 2, 1) := by decide +kernel
theorem dX10_shown_4 : decode cX10_shown 4 = .ok (.iadd, 1) := by decide +kernel
theorem dX10_shown_5 : decode cX10_shown 5 = .ok (.istore_n 3, 1) := by decide +kernel
theorem dX10_shown_6 : decode cX10_shown 6 = .ok (.aload_n 0, 1) := by decide +kernel
theorem dX10_shown_7 : decode cX10_shown 7 = .ok (.getfield 19, 3) := by decide +kernel
theorem dX10_shown_10 : decode cX10_shown 10 = .ok (.getfield 168, 3) := by decide +kernel
theorem dX10_shown_13 : decode cX10_shown 13 = .ok (.iload_n 3, 1) := by decide +kernel
theorem dX10_shown_14 : decode cX10_shown 14 = .ok (.invokestatic 142, 3) := by decide +kernel
theorem dX10_shown_17 : decode cX10_shown 17 = .ok (.aload_n 0, 1) := by decide +kernel
theorem dX10_shown_18 : decode cX10_shown 18 = .ok (.getfield 26, 3) := by decide +kernel
theorem dX10_shown_21 : decode cX10_shown 21 = .ok (.getfield 204, 3) := by decide +kernel
theorem dX10_shown_24 : decode cX10_shown 24 = .ok (.iload_n 3, 1) := by decide +kernel
theorem dX10_shown_25 : decode cX10_shown 25 = .ok (.invokestatic 142, 3) := by decide +kernel
theorem dX10_shown_28 : decode cX10_shown 28 = .ok (.iadd, 1) := by decide +kernel
theorem dX10_shown_29 : decode cX10_shown 29 = .ok (.ireturn, 1) := by decide +kernel
theorem dX10_shownFigures_0 : decode cX10_shownFigures 0 = .ok (.bipush 100, 2) := by decide +kernel
theorem dX10_shownFigures_2 : decode cX10_shownFigures 2 = .ok (.aload_n 0, 1) := by decide +kernel
theorem dX10_shownFigures_3 : decode cX10_shownFigures 3 = .ok (.iload_n 1, 1) := by decide +kernel
theorem dX10_shownFigures_4 : decode cX10_shownFigures 4 = .ok (.iconst 0, 1) := by decide +kernel
theorem dX10_shownFigures_5 : decode cX10_shownFigures 5 = .ok (.invokevirtual 201, 3) := by decide +kernel
theorem dX10_shownFigures_8 : decode cX10_shownFigures 8 = .ok (.imul, 1) := by decide +kernel
theorem dX10_shownFigures_9 : decode cX10_shownFigures 9 = .ok (.bipush 10, 2) := by decide +kernel
theorem dX10_shownFigures_11 : decode cX10_shownFigures 11 = .ok (.aload_n 0, 1) := by decide +kernel
theorem dX10_shownFigures_12 : decode cX10_shownFigures 12 = .ok (.iload_n 1, 1) := by decide +kernel
theorem dX10_shownFigures_13 : decode cX10_shownFigures 13 = .ok (.iconst 1, 1) := by decide +kernel
theorem dX10_shownFigures_14 : decode cX10_shownFigures 14 = .ok (.invokevirtual 201, 3) := by decide +kernel
theorem dX10_shownFigures_17 : decode cX10_shownFigures 17 = .ok (.imul, 1) := by decide +kernel
theorem dX10_shownFigures_18 : decode cX10_shownFigures 18 = .ok (.iadd, 1) := by decide +kernel
theorem dX10_shownFigures_19 : decode cX10_shownFigures 19 = .ok (.aload_n 0, 1) := by decide +kernel
theorem dX10_shownFigures_20 : decode cX10_shownFigures 20 = .ok (.iload_n 1, 1) := by decide +kernel
theorem dX10_shownFigures_21 : decode cX10_shownFigures 21 = .ok (.iconst 2, 1) := by decide +kernel
theorem dX10_shownFigures_22 : decode cX10_shownFigures 22 = .ok (.invokevirtual 201, 3) := by decide +kernel
theorem dX10_shownFigures_25 : decode cX10_shownFigures 25 = .ok (.iadd, 1) := by decide +kernel
theorem dX10_shownFigures_26 : decode cX10_shownFigures 26 = .ok (.ireturn, 1) := by decide +kernel
theorem dX10_boltingPairs_0 : decode cX10_boltingPairs 0 = .ok (.aload_n 0, 1) := by decide +kernel
theorem dX10_boltingPairs_1 : decode cX10_boltingPairs 1 = .ok (.getfield 53, 3) := by decide +kernel
theorem dX10_boltingPairs_4 : decode cX10_boltingPairs 4 = .ok (.aload_n 0, 1) := by decide +kernel
theorem dX10_boltingPairs_5 : decode cX10_boltingPairs 5 = .ok (.getfield 26, 3) := by decide +kernel
theorem dX10_boltingPairs_8 : decode cX10_boltingPairs 8 = .ok (.invokevirtual 184, 3) := by decide +kernel
theorem dX10_boltingPairs_11 : decode cX10_boltingPairs 11 = .ok (.iconst 0, 1) := by decide +kernel
theorem dX10_boltingPairs_12 : decode cX10_boltingPairs 12 = .ok (.istore_n 1, 1) := by decide +kernel
theorem dX10_boltingPairs_13 : decode cX10_boltingPairs 13 = .ok (.iconst 0, 1) := by decide +kernel
theorem dX10_boltingPairs_14 : decode cX10_boltingPairs 14 = .ok (.istore_n 2, 1) := by decide +kernel
theorem dX10_boltingPairs_15 : decode cX10_boltingPairs 15 = .ok (.iload_n 2, 1) := by decide +kernel
theorem dX10_boltingPairs_16 : decode cX10_boltingPairs 16 = .ok (.aload_n 0, 1) := by decide +kernel
theorem dX10_boltingPairs_17 : decode cX10_boltingPairs 17 = .ok (.getfield 19, 3) := by decide +kernel
theorem dX10_boltingPairs_20 : decode cX10_boltingPairs 20 = .ok (.getfield 119, 3) := by decide +kernel
theorem dX10_boltingPairs_23 : decode cX10_boltingPairs 23 = .ok (.if_icmp .ge 50, 3) := by decide +kernel
theorem dX10_boltingPairs_26 : decode cX10_boltingPairs 26 = .ok (.iconst 0, 1) := by decide +kernel
theorem dX10_boltingPairs_27 : decode cX10_boltingPairs 27 = .ok (.istore_n 3, 1) := by decide +kernel
theorem dX10_boltingPairs_28 : decode cX10_boltingPairs 28 = .ok (.iload_n 3, 1) := by decide +kernel
theorem dX10_boltingPairs_29 : decode cX10_boltingPairs 29 = .ok (.aload_n 0, 1) := by decide +kernel
theorem dX10_boltingPairs_30 : decode cX10_boltingPairs 30 = .ok (.getfield 19, 3) := by decide +kernel
theorem dX10_boltingPairs_33 : decode cX10_boltingPairs 33 = .ok (.getfield 116, 3) := by decide +kernel
theorem dX10_boltingPairs_36 : decode cX10_boltingPairs 36 = .ok (.if_icmp .ge 31, 3) := by decide +kernel
theorem dX10_boltingPairs_39 : decode cX10_boltingPairs 39 = .ok (.aload_n 0, 1) := by decide +kernel
theorem dX10_boltingPairs_40 : decode cX10_boltingPairs 40 = .ok (.getfield 26, 3) := by decide +kernel
theorem dX10_boltingPairs_43 : decode cX10_boltingPairs 43 = .ok (.getfield 122, 3) := by decide +kernel
theorem dX10_boltingPairs_46 : decode cX10_boltingPairs 46 = .ok (.iload_n 2, 1) := by decide +kernel
theorem dX10_boltingPairs_47 : decode cX10_boltingPairs 47 = .ok (.iload_n 3, 1) := by decide +kernel
theorem dX10_boltingPairs_48 : decode cX10_boltingPairs 48 = .ok (.aload_n 0, 1) := by decide +kernel
theorem dX10_boltingPairs_49 : decode cX10_boltingPairs 49 = .ok (.getfield 53, 3) := by decide +kernel
theorem dX10_boltingPairs_52 : decode cX10_boltingPairs 52 = .ok (.invokevirtual 229, 3) := by decide +kernel
theorem dX10_boltingPairs_55 : decode cX10_boltingPairs 55 = .ok (.ifCond .eq 6, 3) := by decide +kernel
theorem dX10_boltingPairs_58 : decode cX10_boltingPairs 58 = .ok (.iinc 1 1, 3) := by decide +kernel
theorem dX10_boltingPairs_61 : decode cX10_boltingPairs 61 = .ok (.iinc 3 1, 3) := by decide +kernel
theorem dX10_boltingPairs_64 : decode cX10_boltingPairs 64 = .ok (.goto (-36), 3) := by decide +kernel
theorem dX10_boltingPairs_67 : decode cX10_boltingPairs 67 = .ok (.iinc 2 1, 3) := by decide +kernel
theorem dX10_boltingPairs_70 : decode cX10_boltingPairs 70 = .ok (.goto (-55), 3) := by decide +kernel
theorem dX10_boltingPairs_73 : decode cX10_boltingPairs 73 = .ok (.iload_n 1, 1) := by decide +kernel
theorem dX10_boltingPairs_74 : decode cX10_boltingPairs 74 = .ok (.ireturn, 1) := by decide +kernel
theorem dX10_hasWhenForged_0 : decode cX10_hasWhenForged 0 = .ok (.aload_n 0, 1) := by decide +kernel
theorem dX10_hasWhenForged_1 : decode cX10_hasWhenForged 1 = .ok (.iload_n 1, 1) := by decide +kernel
theorem dX10_hasWhenForged_2 : decode cX10_hasWhenForged 2 = .ok (.iconst 0, 1) := by decide +kernel
theorem dX10_hasWhenForged_3 : decode cX10_hasWhenForged 3 = .ok (.invokevirtual 201, 3) := by decide +kernel
theorem dX10_hasWhenForged_6 : decode cX10_hasWhenForged 6 = .ok (.iload_n 3, 1) := by decide +kernel
theorem dX10_hasWhenForged_7 : decode cX10_hasWhenForged 7 = .ok (.bipush 100, 2) := by decide +kernel
theorem dX10_hasWhenForged_9 : decode cX10_hasWhenForged 9 = .ok (.idiv, 1) := by decide +kernel
theorem dX10_hasWhenForged_10 : decode cX10_hasWhenForged 10 = .ok (.iadd, 1) := by decide +kernel
theorem dX10_hasWhenForged_11 : decode cX10_hasWhenForged 11 = .ok (.istore 4, 2) := by decide +kernel
theorem dX10_hasWhenForged_13 : decode cX10_hasWhenForged 13 = .ok (.aload_n 0, 1) := by decide +kernel
theorem dX10_hasWhenForged_14 : decode cX10_hasWhenForged 14 = .ok (.iload_n 1, 1) := by decide +kernel
theorem dX10_hasWhenForged_15 : decode cX10_hasWhenForged 15 = .ok (.iconst 1, 1) := by decide +kernel
theorem dX10_hasWhenForged_16 : decode cX10_hasWhenForged 16 = .ok (.invokevirtual 201, 3) := by decide +kernel
theorem dX10_hasWhenForged_19 : decode cX10_hasWhenForged 19 = .ok (.iload_n 3, 1) := by decide +kernel
theorem dX10_hasWhenForged_20 : decode cX10_hasWhenForged 20 = .ok (.bipush 10, 2) := by decide +kernel
theorem dX10_hasWhenForged_22 : decode cX10_hasWhenForged 22 = .ok (.idiv, 1) := by decide +kernel
theorem dX10_hasWhenForged_23 : decode cX10_hasWhenForged 23 = .ok (.bipush 10, 2) := by decide +kernel
theorem dX10_hasWhenForged_25 : decode cX10_hasWhenForged 25 = .ok (.irem, 1) := by decide +kernel
theorem dX10_hasWhenForged_26 : decode cX10_hasWhenForged 26 = .ok (.iadd, 1) := by decide +kernel
theorem dX10_hasWhenForged_27 : decode cX10_hasWhenForged 27 = .ok (.istore 5, 2) := by decide +kernel
theorem dX10_hasWhenForged_29 : decode cX10_hasWhenForged 29 = .ok (.aload_n 0, 1) := by decide +kernel
theorem dX10_hasWhenForged_30 : decode cX10_hasWhenForged 30 = .ok (.iload_n 1, 1) := by decide +kernel
theorem dX10_hasWhenForged_31 : decode cX10_hasWhenForged 31 = .ok (.iconst 2, 1) := by decide +kernel
theorem dX10_hasWhenForged_32 : decode cX10_hasWhenForged 32 = .ok (.invokevirtual 201, 3) := by decide +kernel
theorem dX10_hasWhenForged_35 : decode cX10_hasWhenForged 35 = .ok (.iload_n 3, 1) := by decide +kernel
theorem dX10_hasWhenForged_36 : decode cX10_hasWhenForged 36 = .ok (.bipush 10, 2) := by decide +kernel
theorem dX10_hasWhenForged_38 : decode cX10_hasWhenForged 38 = .ok (.irem, 1) := by decide +kernel
theorem dX10_hasWhenForged_39 : decode cX10_hasWhenForged 39 = .ok (.iadd, 1) := by decide +kernel
theorem dX10_hasWhenForged_40 : decode cX10_hasWhenForged 40 = .ok (.istore 6, 2) := by decide +kernel
theorem dX10_hasWhenForged_42 : decode cX10_hasWhenForged 42 = .ok (.iload 4, 2) := by decide +kernel
theorem dX10_hasWhenForged_44 : decode cX10_hasWhenForged 44 = .ok (.bipush 9, 2) := by decide +kernel
theorem dX10_hasWhenForged_46 : decode cX10_hasWhenForged 46 = .ok (.if_icmp .gt 17, 3) := by decide +kernel
theorem dX10_hasWhenForged_49 : decode cX10_hasWhenForged 49 = .ok (.iload 5, 2) := by decide +kernel
theorem dX10_hasWhenForged_51 : decode cX10_hasWhenForged 51 = .ok (.bipush 9, 2) := by decide +kernel
theorem dX10_hasWhenForged_53 : decode cX10_hasWhenForged 53 = .ok (.if_icmp .gt 10, 3) := by decide +kernel
theorem dX10_hasWhenForged_56 : decode cX10_hasWhenForged 56 = .ok (.iload 6, 2) := by decide +kernel
theorem dX10_hasWhenForged_58 : decode cX10_hasWhenForged 58 = .ok (.bipush 9, 2) := by decide +kernel
theorem dX10_hasWhenForged_60 : decode cX10_hasWhenForged 60 = .ok (.if_icmp .le 5, 3) := by decide +kernel
theorem dX10_hasWhenForged_63 : decode cX10_hasWhenForged 63 = .ok (.iconst 0, 1) := by decide +kernel
theorem dX10_hasWhenForged_64 : decode cX10_hasWhenForged 64 = .ok (.ireturn, 1) := by decide +kernel
theorem dX10_hasWhenForged_65 : decode cX10_hasWhenForged 65 = .ok (.aload_n 0, 1) := by decide +kernel
theorem dX10_hasWhenForged_66 : decode cX10_hasWhenForged 66 = .ok (.getfield 53, 3) := by decide +kernel
theorem dX10_hasWhenForged_69 : decode cX10_hasWhenForged 69 = .ok (.iload_n 1, 1) := by decide +kernel
theorem dX10_hasWhenForged_70 : decode cX10_hasWhenForged 70 = .ok (.iload 4, 2) := by decide +kernel
theorem dX10_hasWhenForged_72 : decode cX10_hasWhenForged 72 = .ok (.iload 5, 2) := by decide +kernel
theorem dX10_hasWhenForged_74 : decode cX10_hasWhenForged 74 = .ok (.iload 6, 2) := by decide +kernel
theorem dX10_hasWhenForged_76 : decode cX10_hasWhenForged 76 = .ok (.invokevirtual 339, 3) := by decide +kernel
theorem dX10_hasWhenForged_79 : decode cX10_hasWhenForged 79 = .ok (.aload_n 0, 1) := by decide +kernel
theorem dX10_hasWhenForged_80 : decode cX10_hasWhenForged 80 = .ok (.getfield 53, 3) := by decide +kernel
theorem dX10_hasWhenForged_83 : decode cX10_hasWhenForged 83 = .ok (.iload_n 2, 1) := by decide +kernel
theorem dX10_hasWhenForged_84 : decode cX10_hasWhenForged 84 = .ok (.iload_n 1, 1) := by decide +kernel
theorem dX10_hasWhenForged_85 : decode cX10_hasWhenForged 85 = .ok (.invokevirtual 221, 3) := by decide +kernel
theorem dX10_hasWhenForged_88 : decode cX10_hasWhenForged 88 = .ok (.ifCond .ne 5, 3) := by decide +kernel
theorem dX10_hasWhenForged_91 : decode cX10_hasWhenForged 91 = .ok (.iconst 0, 1) := by decide +kernel
theorem dX10_hasWhenForged_92 : decode cX10_hasWhenForged 92 = .ok (.ireturn, 1) := by decide +kernel
theorem dX10_hasWhenForged_93 : decode cX10_hasWhenForged 93 = .ok (.aload_n 0, 1) := by decide +kernel
theorem dX10_hasWhenForged_94 : decode cX10_hasWhenForged 94 = .ok (.getfield 62, 3) := by decide +kernel
theorem dX10_hasWhenForged_97 : decode cX10_hasWhenForged 97 = .ok (.aload_n 0, 1) := by decide +kernel
theorem dX10_hasWhenForged_98 : decode cX10_hasWhenForged 98 = .ok (.getfield 19, 3) := by decide +kernel
theorem dX10_hasWhenForged_101 : decode cX10_hasWhenForged 101 = .ok (.invokevirtual 235, 3) := by decide +kernel
theorem dX10_hasWhenForged_104 : decode cX10_hasWhenForged 104 = .ok (.invokevirtual 238, 3) := by decide +kernel
theorem dX10_hasWhenForged_107 : decode cX10_hasWhenForged 107 = .ok (.aload_n 0, 1) := by decide +kernel
theorem dX10_hasWhenForged_108 : decode cX10_hasWhenForged 108 = .ok (.getfield 62, 3) := by decide +kernel
theorem dX10_hasWhenForged_111 : decode cX10_hasWhenForged 111 = .ok (.getfield 242, 3) := by decide +kernel
theorem dX10_hasWhenForged_114 : decode cX10_hasWhenForged 114 = .ok (.iload_n 1, 1) := by decide +kernel
theorem dX10_hasWhenForged_115 : decode cX10_hasWhenForged 115 = .ok (.invokevirtual 177, 3) := by decide +kernel
theorem dX10_hasWhenForged_118 : decode cX10_hasWhenForged 118 = .ok (.iload_n 2, 1) := by decide +kernel
theorem dX10_hasWhenForged_119 : decode cX10_hasWhenForged 119 = .ok (.if_icmp .ne 7, 3) := by decide +kernel
theorem dX10_hasWhenForged_122 : decode cX10_hasWhenForged 122 = .ok (.iconst 1, 1) := by decide +kernel
theorem dX10_hasWhenForged_123 : decode cX10_hasWhenForged 123 = .ok (.goto 4, 3) := by decide +kernel
theorem dX10_hasWhenForged_126 : decode cX10_hasWhenForged 126 = .ok (.iconst 0, 1) := by decide +kernel
theorem dX10_hasWhenForged_127 : decode cX10_hasWhenForged 127 = .ok (.ireturn, 1) := by decide +kernel
theorem dX10_couldWear_0 : decode cX10_couldWear 0 = .ok (.iload_n 1, 1) := by decide +kernel
theorem dX10_couldWear_1 : decode cX10_couldWear 1 = .ok (.invokestatic 335, 3) := by decide +kernel
theorem dX10_couldWear_4 : decode cX10_couldWear 4 = .ok (.aload_n 0, 1) := by decide +kernel
theorem dX10_couldWear_5 : decode cX10_couldWear 5 = .ok (.getfield 19, 3) := by decide +kernel
theorem dX10_couldWear_8 : decode cX10_couldWear 8 = .ok (.getfield 138, 3) := by decide +kernel
theorem dX10_couldWear_11 : decode cX10_couldWear 11 = .ok (.iload_n 2, 1) := by decide +kernel
theorem dX10_couldWear_12 : decode cX10_couldWear 12 = .ok (.invokestatic 142, 3) := by decide +kernel
theorem dX10_couldWear_15 : decode cX10_couldWear 15 = .ok (.if_icmp .le 5, 3) := by decide +kernel
theorem dX10_couldWear_18 : decode cX10_couldWear 18 = .ok (.iconst 0, 1) := by decide +kernel
theorem dX10_couldWear_19 : decode cX10_couldWear 19 = .ok (.ireturn, 1) := by decide +kernel
theorem dX10_couldWear_20 : decode cX10_couldWear 20 = .ok (.iconst 0, 1) := by decide +kernel
theorem dX10_couldWear_21 : decode cX10_couldWear 21 = .ok (.istore_n 3, 1) := by decide +kernel
theorem dX10_couldWear_22 : decode cX10_couldWear 22 = .ok (.iload_n 3, 1) := by decide +kernel
theorem dX10_couldWear_23 : decode cX10_couldWear 23 = .ok (.aload_n 0, 1) := by decide +kernel
theorem dX10_couldWear_24 : decode cX10_couldWear 24 = .ok (.getfield 19, 3) := by decide +kernel
theorem dX10_couldWear_27 : decode cX10_couldWear 27 = .ok (.getfield 119, 3) := by decide +kernel
theorem dX10_couldWear_30 : decode cX10_couldWear 30 = .ok (.if_icmp .ge 31, 3) := by decide +kernel
theorem dX10_couldWear_33 : decode cX10_couldWear 33 = .ok (.iload_n 1, 1) := by decide +kernel
theorem dX10_couldWear_34 : decode cX10_couldWear 34 = .ok (.iload_n 3, 1) := by decide +kernel
theorem dX10_couldWear_35 : decode cX10_couldWear 35 = .ok (.invokestatic 252, 3) := by decide +kernel
theorem dX10_couldWear_38 : decode cX10_couldWear 38 = .ok (.ifCond .eq 17, 3) := by decide +kernel
theorem dX10_couldWear_41 : decode cX10_couldWear 41 = .ok (.aload_n 0, 1) := by decide +kernel
theorem dX10_couldWear_42 : decode cX10_couldWear 42 = .ok (.getfield 53, 3) := by decide +kernel
theorem dX10_couldWear_45 : decode cX10_couldWear 45 = .ok (.iload_n 2, 1) := by decide +kernel
theorem dX10_couldWear_46 : decode cX10_couldWear 46 = .ok (.iload_n 3, 1) := by decide +kernel
theorem dX10_couldWear_47 : decode cX10_couldWear 47 = .ok (.invokevirtual 221, 3) := by decide +kernel
theorem dX10_couldWear_50 : decode cX10_couldWear 50 = .ok (.ifCond .ne 5, 3) := by decide +kernel
theorem dX10_couldWear_53 : decode cX10_couldWear 53 = .ok (.iconst 0, 1) := by decide +kernel
theorem dX10_couldWear_54 : decode cX10_couldWear 54 = .ok (.ireturn, 1) := by decide +kernel
theorem dX10_couldWear_55 : decode cX10_couldWear 55 = .ok (.iinc 3 1, 3) := by decide +kernel
theorem dX10_couldWear_58 : decode cX10_couldWear 58 = .ok (.goto (-36), 3) := by decide +kernel
theorem dX10_couldWear_61 : decode cX10_couldWear 61 = .ok (.iconst 1, 1) := by decide +kernel
theorem dX10_couldWear_62 : decode cX10_couldWear 62 = .ok (.ireturn, 1) := by decide +kernel
theorem dX10_truthTogether_0 : decode cX10_truthTogether 0 = .ok (.iconst 0, 1) := by decide +kernel
theorem dX10_truthTogether_1 : decode cX10_truthTogether 1 = .ok (.istore_n 3, 1) := by decide +kernel
theorem dX10_truthTogether_2 : decode cX10_truthTogether 2 = .ok (.iconst 0, 1) := by decide +kernel
theorem dX10_truthTogether_3 : decode cX10_truthTogether 3 = .ok (.istore 4, 2) := by decide +kernel
theorem dX10_truthTogether_5 : decode cX10_truthTogether 5 = .ok (.iload 4, 2) := by decide +kernel
theorem dX10_truthTogether_7 : decode cX10_truthTogether 7 = .ok (.aload_n 0, 1) := by decide +kernel
theorem dX10_truthTogether_8 : decode cX10_truthTogether 8 = .ok (.getfield 19, 3) := by decide +kernel
theorem dX10_truthTogether_11 : decode cX10_truthTogether 11 = .ok (.getfield 119, 3) := by decide +kernel
theorem dX10_truthTogether_14 : decode cX10_truthTogether 14 = .ok (.if_icmp .ge 37, 3) := by decide +kernel
theorem dX10_truthTogether_17 : decode cX10_truthTogether 17 = .ok (.iload_n 1, 1) := by decide +kernel
theorem dX10_truthTogether_18 : decode cX10_truthTogether 18 = .ok (.iload 4, 2) := by decide +kernel
theorem dX10_truthTogether_20 : decode cX10_truthTogether 20 = .ok (.invokestatic 252, 3) := by decide +kernel
theorem dX10_truthTogether_23 : decode cX10_truthTogether 23 = .ok (.ifCond .eq 22, 3) := by decide +kernel
theorem dX10_truthTogether_26 : decode cX10_truthTogether 26 = .ok (.iload_n 3, 1) := by decide +kernel
theorem dX10_truthTogether_27 : decode cX10_truthTogether 27 = .ok (.aload_n 0, 1) := by decide +kernel
theorem dX10_truthTogether_28 : decode cX10_truthTogether 28 = .ok (.getfield 19, 3) := by decide +kernel
theorem dX10_truthTogether_31 : decode cX10_truthTogether 31 = .ok (.getfield 168, 3) := by decide +kernel
theorem dX10_truthTogether_34 : decode cX10_truthTogether 34 = .ok (.iconst 3, 1) := by decide +kernel
theorem dX10_truthTogether_35 : decode cX10_truthTogether 35 = .ok (.iload 4, 2) := by decide +kernel
theorem dX10_truthTogether_37 : decode cX10_truthTogether 37 = .ok (.imul, 1) := by decide +kernel
theorem dX10_truthTogether_38 : decode cX10_truthTogether 38 = .ok (.iload_n 2, 1) := by decide +kernel
theorem dX10_truthTogether_39 : decode cX10_truthTogether 39 = .ok (.iadd, 1) := by decide +kernel
theorem dX10_truthTogether_40 : decode cX10_truthTogether 40 = .ok (.invokestatic 142, 3) := by decide +kernel
theorem dX10_truthTogether_43 : decode cX10_truthTogether 43 = .ok (.iadd, 1) := by decide +kernel
theorem dX10_truthTogether_44 : decode cX10_truthTogether 44 = .ok (.istore_n 3, 1) := by decide +kernel
theorem dX10_truthTogether_45 : decode cX10_truthTogether 45 = .ok (.iinc 4 1, 3) := by decide +kernel
theorem dX10_truthTogether_48 : decode cX10_truthTogether 48 = .ok (.goto (-43), 3) := by decide +kernel
theorem dX10_truthTogether_51 : decode cX10_truthTogether 51 = .ok (.iload_n 3, 1) := by decide +kernel
theorem dX10_truthTogether_52 : decode cX10_truthTogether 52 = .ok (.ireturn, 1) := by decide +kernel
theorem dX10_chanceOfSet_0 : decode cX10_chanceOfSet 0 = .ok (.iconst 1, 1) := by decide +kernel
theorem dX10_chanceOfSet_1 : decode cX10_chanceOfSet 1 = .ok (.istore_n 3, 1) := by decide +kernel
theorem dX10_chanceOfSet_2 : decode cX10_chanceOfSet 2 = .ok (.iconst 0, 1) := by decide +kernel
theorem dX10_chanceOfSet_3 : decode cX10_chanceOfSet 3 = .ok (.istore 4, 2) := by decide +kernel
theorem dX10_chanceOfSet_5 : decode cX10_chanceOfSet 5 = .ok (.iload 4, 2) := by decide +kernel
theorem dX10_chanceOfSet_7 : decode cX10_chanceOfSet 7 = .ok (.aload_n 0, 1) := by decide +kernel
theorem dX10_chanceOfSet_8 : decode cX10_chanceOfSet 8 = .ok (.getfield 19, 3) := by decide +kernel
theorem dX10_chanceOfSet_11 : decode cX10_chanceOfSet 11 = .ok (.getfield 119, 3) := by decide +kernel
theorem dX10_chanceOfSet_14 : decode cX10_chanceOfSet 14 = .ok (.if_icmp .ge 29, 3) := by decide +kernel
theorem dX10_chanceOfSet_17 : decode cX10_chanceOfSet 17 = .ok (.iload_n 3, 1) := by decide +kernel
theorem dX10_chanceOfSet_18 : decode cX10_chanceOfSet 18 = .ok (.iload_n 1, 1) := by decide +kernel
theorem dX10_chanceOfSet_19 : decode cX10_chanceOfSet 19 = .ok (.iload 4, 2) := by decide +kernel
theorem dX10_chanceOfSet_21 : decode cX10_chanceOfSet 21 = .ok (.invokestatic 252, 3) := by decide +kernel
theorem dX10_chanceOfSet_24 : decode cX10_chanceOfSet 24 = .ok (.ifCond .eq 7, 3) := by decide +kernel
theorem dX10_chanceOfSet_27 : decode cX10_chanceOfSet 27 = .ok (.iload_n 2, 1) := by decide +kernel
theorem dX10_chanceOfSet_28 : decode cX10_chanceOfSet 28 = .ok (.goto 7, 3) := by decide +kernel
theorem dX10_chanceOfSet_31 : decode cX10_chanceOfSet 31 = .ok (.bipush 10, 2) := by decide +kernel
theorem dX10_chanceOfSet_33 : decode cX10_chanceOfSet 33 = .ok (.iload_n 2, 1) := by decide +kernel
theorem dX10_chanceOfSet_34 : decode cX10_chanceOfSet 34 = .ok (.isub, 1) := by decide +kernel
theorem dX10_chanceOfSet_35 : decode cX10_chanceOfSet 35 = .ok (.imul, 1) := by decide +kernel
theorem dX10_chanceOfSet_36 : decode cX10_chanceOfSet 36 = .ok (.istore_n 3, 1) := by decide +kernel
theorem dX10_chanceOfSet_37 : decode cX10_chanceOfSet 37 = .ok (.iinc 4 1, 3) := by decide +kernel
theorem dX10_chanceOfSet_40 : decode cX10_chanceOfSet 40 = .ok (.goto (-35), 3) := by decide +kernel
theorem dX10_chanceOfSet_43 : decode cX10_chanceOfSet 43 = .ok (.iload_n 3, 1) := by decide +kernel
theorem dX10_chanceOfSet_44 : decode cX10_chanceOfSet 44 = .ok (.ireturn, 1) := by decide +kernel
theorem dX10_emptySlots_0 : decode cX10_emptySlots 0 = .ok (.iconst 0, 1) := by decide +kernel
theorem dX10_emptySlots_1 : decode cX10_emptySlots 1 = .ok (.istore_n 1, 1) := by decide +kernel
theorem dX10_emptySlots_2 : decode cX10_emptySlots 2 = .ok (.iload_n 1, 1) := by decide +kernel
theorem dX10_emptySlots_3 : decode cX10_emptySlots 3 = .ok (.iconst 2, 1) := by decide +kernel
theorem dX10_emptySlots_4 : decode cX10_emptySlots 4 = .ok (.if_icmp .ge 24, 3) := by decide +kernel
theorem dX10_emptySlots_7 : decode cX10_emptySlots 7 = .ok (.aload_n 0, 1) := by decide +kernel
theorem dX10_emptySlots_8 : decode cX10_emptySlots 8 = .ok (.iload_n 1, 1) := by decide +kernel
theorem dX10_emptySlots_9 : decode cX10_emptySlots 9 = .ok (.invokevirtual 325, 3) := by decide +kernel
theorem dX10_emptySlots_12 : decode cX10_emptySlots 12 = .ok (.astore_n 2, 1) := by decide +kernel
theorem dX10_emptySlots_13 : decode cX10_emptySlots 13 = .ok (.aload_n 2, 1) := by decide +kernel
theorem dX10_emptySlots_14 : decode cX10_emptySlots 14 = .ok (.ifnull 8, 3) := by decide +kernel
theorem dX10_emptySlots_17 : decode cX10_emptySlots 17 = .ok (.aload_n 2, 1) := by decide +kernel
theorem dX10_emptySlots_18 : decode cX10_emptySlots 18 = .ok (.iconst 0, 1) := by decide +kernel
theorem dX10_emptySlots_19 : decode cX10_emptySlots 19 = .ok (.putfield 331, 3) := by decide +kernel
theorem dX10_emptySlots_22 : decode cX10_emptySlots 22 = .ok (.iinc 1 1, 3) := by decide +kernel
theorem dX10_emptySlots_25 : decode cX10_emptySlots 25 = .ok (.goto (-23), 3) := by decide +kernel
theorem dX10_emptySlots_28 : decode cX10_emptySlots 28 = .ok (.return_, 1) := by decide +kernel
theorem dX10_slotOf_0 : decode cX10_slotOf 0 = .ok (.iload_n 1, 1) := by decide +kernel
theorem dX10_slotOf_1 : decode cX10_slotOf 1 = .ok (.ifCond .lt 21, 3) := by decide +kernel
theorem dX10_slotOf_4 : decode cX10_slotOf 4 = .ok (.iload_n 1, 1) := by decide +kernel
theorem dX10_slotOf_5 : decode cX10_slotOf 5 = .ok (.aload_n 0, 1) := by decide +kernel
theorem dX10_slotOf_6 : decode cX10_slotOf 6 = .ok (.getfield 37, 3) := by decide +kernel
theorem dX10_slotOf_9 : decode cX10_slotOf 9 = .ok (.arraylength, 1) := by decide +kernel
theorem dX10_slotOf_10 : decode cX10_slotOf 10 = .ok (.if_icmp .ge 12, 3) := by decide +kernel
theorem dX10_slotOf_13 : decode cX10_slotOf 13 = .ok (.aload_n 0, 1) := by decide +kernel
theorem dX10_slotOf_14 : decode cX10_slotOf 14 = .ok (.getfield 37, 3) := by decide +kernel
theorem dX10_slotOf_17 : decode cX10_slotOf 17 = .ok (.iload_n 1, 1) := by decide +kernel
theorem dX10_slotOf_18 : decode cX10_slotOf 18 = .ok (.aaload, 1) := by decide +kernel
theorem dX10_slotOf_19 : decode cX10_slotOf 19 = .ok (.goto 4, 3) := by decide +kernel
theorem dX10_slotOf_22 : decode cX10_slotOf 22 = .ok (.aconst_null, 1) := by decide +kernel
theorem dX10_slotOf_23 : decode cX10_slotOf 23 = .ok (.areturn, 1) := by decide +kernel
theorem dX11_init_0 : decode cX11_init 0 = .ok (.aload_n 0, 1) := by decide +kernel
theorem dX11_init_1 : decode cX11_init 1 = .ok (.invokespecial 1, 3) := by decide +kernel
theorem dX11_init_4 : decode cX11_init 4 = .ok (.aload_n 0, 1) := by decide +kernel
theorem dX11_init_5 : decode cX11_init 5 = .ok (.bipush 64, 2) := by decide +kernel
theorem dX11_init_7 : decode cX11_init 7 = .ok (.newarray .int, 2) := by decide +kernel
theorem dX11_init_9 : decode cX11_init 9 = .ok (.putfield 7, 3) := by decide +kernel
theorem dX11_init_12 : decode cX11_init 12 = .ok (.aload_n 0, 1) := by decide +kernel
theorem dX11_init_13 : decode cX11_init 13 = .ok (.bipush 28, 2) := by decide +kernel
theorem dX11_init_15 : decode cX11_init 15 = .ok (.newarray .int, 2) := by decide +kernel
theorem dX11_init_17 : decode cX11_init 17 = .ok (.putfield 13, 3) := by decide +kernel
theorem dX11_init_20 : decode cX11_init 20 = .ok (.aload_n 0, 1) := by decide +kernel
theorem dX11_init_21 : decode cX11_init 21 = .ok (.bipush 20, 2) := by decide +kernel
theorem dX11_init_23 : decode cX11_init 23 = .ok (.newarray .int, 2) := by decide +kernel
theorem dX11_init_25 : decode cX11_init 25 = .ok (.putfield 16, 3) := by decide +kernel
theorem dX11_init_28 : decode cX11_init 28 = .ok (.aload_n 0, 1) := by decide +kernel
theorem dX11_init_29 : decode cX11_init 29 = .ok (.bipush 28, 2) := by decide +kernel
theorem dX11_init_31 : decode cX11_init 31 = .ok (.newarray .int, 2) := by decide +kernel
theorem dX11_init_33 : decode cX11_init 33 = .ok (.putfield 19, 3) := by decide +kernel
theorem dX11_init_36 : decode cX11_init 36 = .ok (.aload_n 0, 1) := by decide +kernel
theorem dX11_init_37 : decode cX11_init 37 = .ok (.bipush 20, 2) := by decide +kernel
theorem dX11_init_39 : decode cX11_init 39 = .ok (.newarray .int, 2) := by decide +kernel
theorem dX11_init_41 : decode cX11_init 41 = .ok (.putfield 22, 3) := by decide +kernel
theorem dX11_init_44 : decode cX11_init 44 = .ok (.aload_n 0, 1) := by decide +kernel
theorem dX11_init_45 : decode cX11_init 45 = .ok (.bipush 21, 2) := by decide +kernel
theorem dX11_init_47 : decode cX11_init 47 = .ok (.newarray .int, 2) := by decide +kernel
theorem dX11_init_49 : decode cX11_init 49 = .ok (.putfield 25, 3) := by decide +kernel
theorem dX11_init_52 : decode cX11_init 52 = .ok (.aload_n 0, 1) := by decide +kernel
theorem dX11_init_53 : decode cX11_init 53 = .ok (.sipush 294, 3) := by decide +kernel
theorem dX11_init_56 : decode cX11_init 56 = .ok (.newarray .int, 2) := by decide +kernel
theorem dX11_init_58 : decode cX11_init 58 = .ok (.putfield 28, 3) := by decide +kernel
theorem dX11_init_61 : decode cX11_init 61 = .ok (.aload_n 0, 1) := by decide +kernel
theorem dX11_init_62 : decode cX11_init 62 = .ok (.bipush 42, 2) := by decide +kernel
theorem dX11_init_64 : decode cX11_init 64 = .ok (.newarray .int, 2) := by decide +kernel
theorem dX11_init_66 : decode cX11_init 66 = .ok (.putfield 31, 3) := by decide +kernel
theorem dX11_init_69 : decode cX11_init 69 = .ok (.aload_n 0, 1) := by decide +kernel
theorem dX11_init_70 : decode cX11_init 70 = .ok (.iconst 2, 1) := by decide +kernel
theorem dX11_init_71 : decode cX11_init 71 = .ok (.newarray .boolean, 2) := by decide +kernel
theorem dX11_init_73 : decode cX11_init 73 = .ok (.putfield 34, 3) := by decide +kernel
theorem dX11_init_76 : decode cX11_init 76 = .ok (.aload_n 0, 1) := by decide +kernel
theorem dX11_init_77 : decode cX11_init 77 = .ok (.bipush 6, 2) := by decide +kernel
theorem dX11_init_79 : decode cX11_init 79 = .ok (.newarray .int, 2) := by decide +kernel
theorem dX11_init_81 : decode cX11_init 81 = .ok (.putfield 38, 3) := by decide +kernel
theorem dX11_init_84 : decode cX11_init 84 = .ok (.aload_n 0, 1) := by decide +kernel
theorem dX11_init_85 : decode cX11_init 85 = .ok (.bipush 6, 2) := by decide +kernel
theorem dX11_init_87 : decode cX11_init 87 = .ok (.newarray .int, 2) := by decide +kernel
theorem dX11_init_89 : decode cX11_init 89 = .ok (.putfield 41, 3) := by decide +kernel
theorem dX11_init_92 : decode cX11_init 92 = .ok (.aload_n 0, 1) := by decide +kernel
theorem dX11_init_93 : decode cX11_init 93 = .ok (.iconst 5, 1) := by decide +kernel
theorem dX11_init_94 : decode cX11_init 94 = .ok (.newarray .int, 2) := by decide +kernel
theorem dX11_init_96 : decode cX11_init 96 = .ok (.putfield 44, 3) := by decide +kernel
theorem dX11_init_99 : decode cX11_init 99 = .ok (.aload_n 0, 1) := by decide +kernel
theorem dX11_init_100 : decode cX11_init 100 = .ok (.iconst 5, 1) := by decide +kernel
theorem dX11_init_101 : decode cX11_init 101 = .ok (.newarray .int, 2) := by decide +kernel
theorem dX11_init_103 : decode cX11_init 103 = .ok (.putfield 47, 3) := by decide +kernel
theorem dX11_init_106 : decode cX11_init 106 = .ok (.aload_n 0, 1) := by decide +kernel
theorem dX11_init_107 : decode cX11_init 107 = .ok (.iconst 5, 1) := by decide +kernel
theorem dX11_init_108 : decode cX11_init 108 = .ok (.newarray .int, 2) := by decide +kernel
theorem dX11_init_110 : decode cX11_init 110 = .ok (.putfield 50, 3) := by decide +kernel
theorem dX11_init_113 : decode cX11_init 113 = .ok (.aload_n 0, 1) := by decide +kernel
theorem dX11_init_114 : decode cX11_init 114 = .ok (.bipush 15, 2) := by decide +kernel
theorem dX11_init_116 : decode cX11_init 116 = .ok (.newarray .int, 2) := by decide +kernel
theorem dX11_init_118 : decode cX11_init 118 = .ok (.putfield 53, 3) := by decide +kernel
theorem dX11_init_121 : decode cX11_init 121 = .ok (.iconst 0, 1) := by decide +kernel
theorem dX11_init_122 : decode cX11_init 122 = .ok (.istore_n 1, 1) := by decide +kernel
theorem dX11_init_123 : decode cX11_init 123 = .ok (.iload_n 1, 1) := by decide +kernel
theorem dX11_init_124 : decode cX11_init 124 = .ok (.iconst 5, 1) := by decide +kernel
theorem dX11_init_125 : decode cX11_init 125 = .ok (.if_icmp .ge 17, 3) := by decide +kernel
theorem dX11_init_128 : decode cX11_init 128 = .ok (.aload_n 0, 1) := by decide +kernel
theorem dX11_init_129 : decode cX11_init 129 = .ok (.getfield 25, 3) := by decide +kernel
theorem dX11_init_132 : decode cX11_init 132 = .ok (.iload_n 1, 1) := by decide +kernel
theorem dX11_init_133 : decode cX11_init 133 = .ok (.bipush (-9), 2) := by decide +kernel
theorem dX11_init_135 : decode cX11_init 135 = .ok (.iastore, 1) := by decide +kernel
theorem dX11_init_136 : decode cX11_init 136 = .ok (.iinc 1 1, 3) := by decide +kernel
theorem dX11_init_139 : decode cX11_init 139 = .ok (.goto (-16), 3) := by decide +kernel
theorem dX11_init_142 : decode cX11_init 142 = .ok (.return_, 1) := by decide +kernel
theorem dX11_in_0 : decode cX11_in 0 = .ok (.lload_n 0, 1) := by decide +kernel
theorem dX11_in_1 : decode cX11_in 1 = .ok (.lload_n 2, 1) := by decide +kernel
theorem dX11_in_2 : decode cX11_in 2 = .ok (.lcmp, 1) := by decide +kernel
theorem dX11_in_3 : decode cX11_in 3 = .ok (.ifCond .lt 14, 3) := by decide +kernel
theorem dX11_in_6 : decode cX11_in 6 = .ok (.lload_n 0, 1) := by decide +kernel
theorem dX11_in_7 : decode cX11_in 7 = .ok (.lload 4, 2) := by decide +kernel
theorem dX11_in_9 : decode cX11_in 9 = .ok (.lcmp, 1) := by decide +kernel
theorem dX11_in_10 : decode cX11_in 10 = .ok (.ifCond .gt 7, 3) := by decide +kernel
theorem dX11_in_13 : decode cX11_in 13 = .ok (.iconst 1, 1) := by decide +kernel
theorem dX11_in_14 : decode cX11_in 14 = .ok (.goto 4, 3) := by decide +kernel
theorem dX11_in_17 : decode cX11_in 17 = .ok (.iconst 0, 1) := by decide +kernel
theorem dX11_in_18 : decode cX11_in 18 = .ok (.ireturn, 1) := by decide +kernel
theorem dX11_isIn_0 : decode cX11_isIn 0 = .ok (.iload_n 0, 1) := by decide +kernel
theorem dX11_isIn_1 : decode cX11_isIn 1 = .ok (.iload_n 1, 1) := by decide +kernel
theorem dX11_isIn_2 : decode cX11_isIn 2 = .ok (.ishr, 1) := by decide +kernel
theorem dX11_isIn_3 : decode cX11_isIn 3 = .ok (.iconst 1, 1) := by decide +kernel
theorem dX11_isIn_4 : decode cX11_isIn 4 = .ok (.iand, 1) := by decide +kernel
theorem dX11_isIn_5 : decode cX11_isIn 5 = .ok (.iconst 1, 1) := by decide +kernel
theorem dX11_isIn_6 : decode cX11_isIn 6 = .ok (.if_icmp .ne 7, 3) := by decide +kernel
theorem dX11_isIn_9 : decode cX11_isIn 9 = .ok (.iconst 1, 1) := by decide +kernel
theorem dX11_isIn_10 : decode cX11_isIn 10 = .ok (.goto 4, 3) := by decide +kernel
theorem dX11_isIn_13 : decode cX11_isIn 13 = .ok (.iconst 0, 1) := by decide +kernel
theorem dX11_isIn_14 : decode cX11_isIn 14 = .ok (.ireturn, 1) := by decide +kernel
theorem dX11_many_0 : decode cX11_many 0 = .ok (.iconst 0, 1) := by decide +kernel
theorem dX11_many_1 : decode cX11_many 1 = .ok (.istore_n 1, 1) := by decide +kernel
theorem dX11_many_2 : decode cX11_many 2 = .ok (.iconst 0, 1) := by decide +kernel
theorem dX11_many_3 : decode cX11_many 3 = .ok (.istore_n 2, 1) := by decide +kernel
theorem dX11_many_4 : decode cX11_many 4 = .ok (.iload_n 2, 1) := by decide +kernel
theorem dX11_many_5 : decode cX11_many 5 = .ok (.iconst 5, 1) := by decide +kernel
theorem dX11_many_6 : decode cX11_many 6 = .ok (.if_icmp .ge 17, 3) := by decide +kernel
theorem dX11_many_9 : decode cX11_many 9 = .ok (.iload_n 1, 1) := by decide +kernel
theorem dX11_many_10 : decode cX11_many 10 = .ok (.iload_n 0, 1) := by decide +kernel
theorem dX11_many_11 : decode cX11_many 11 = .ok (.iload_n 2, 1) := by decide +kernel
theorem dX11_many_12 : decode cX11_many 12 = .ok (.ishr, 1) := by decide +kernel
theorem dX11_many_13 : decode cX11_many 13 = .ok (.iconst 1, 1) := by decide +kernel
theorem dX11_many_14 : decode cX11_many 14 = .ok (.iand, 1) := by decide +kernel
theorem dX11_many_15 : decode cX11_many 15 = .ok (.iadd, 1) := by decide +kernel
theorem dX11_many_16 : decode cX11_many 16 = .ok (.istore_n 1, 1) := by decide +kernel
theorem dX11_many_17 : decode cX11_many 17 = .ok (.iinc 2 1, 3) := by decide +kernel
theorem dX11_many_20 : decode cX11_many 20 = .ok (.goto (-16), 3) := by decide +kernel
theorem dX11_many_23 : decode cX11_many 23 = .ok (.iload_n 1, 1) := by decide +kernel
theorem dX11_many_24 : decode cX11_many 24 = .ok (.ireturn, 1) := by decide +kernel
theorem dX11_noHorse_0 : decode cX11_noHorse 0 = .ok (.iload_n 1, 1) := by decide +kernel
theorem dX11_noHorse_1 : decode cX11_noHorse 1 = .ok (.i2l, 1) := by decide +kernel
theorem dX11_noHorse_2 : decode cX11_noHorse 2 = .ok (.lconst 0, 1) := by decide +kernel
theorem dX11_noHorse_3 : decode cX11_noHorse 3 = .ok (.aload_n 0, 1) := by decide +kernel
theorem dX11_noHorse_4 : decode cX11_noHorse 4 = .ok (.getfield 60, 3) := by decide +kernel
theorem dX11_noHorse_7 : decode cX11_noHorse 7 = .ok (.iconst 1, 1) := by decide +kernel
theorem dX11_noHorse_8 : decode cX11_noHorse 8 = .ok (.isub, 1) := by decide +kernel
theorem dX11_noHorse_9 : decode cX11_noHorse 9 = .ok (.i2l, 1) := by decide +kernel
theorem dX11_noHorse_10 : decode cX11_noHorse 10 = .ok (.invokestatic 63, 3) := by decide +kernel
theorem dX11_noHorse_13 : decode cX11_noHorse 13 = .ok (.ifCond .ne 7, 3) := by decide +kernel
theorem dX11_noHorse_16 : decode cX11_noHorse 16 = .ok (.iconst 1, 1) := by decide +kernel
theorem dX11_noHorse_17 : decode cX11_noHorse 17 = .ok (.goto 4, 3) := by decide +kernel
theorem dX11_noHorse_20 : decode cX11_noHorse 20 = .ok (.iconst 0, 1) := by decide +kernel
theorem dX11_noHorse_21 : decode cX11_noHorse 21 = .ok (.ireturn, 1) := by decide +kernel
theorem dX11_noRider_0 : decode cX11_noRider 0 = .ok (.iload_n 1, 1) := by decide +kernel
theorem dX11_noRider_1 : decode cX11_noRider 1 = .ok (.i2l, 1) := by decide +kernel
theorem dX11_noRider_2 : decode cX11_noRider 2 = .ok (.lconst 0, 1) := by decide +kernel
theorem dX11_noRider_3 : decode cX11_noRider 3 = .ok (.aload_n 0, 1) := by decide +kernel
theorem dX11_noRider_4 : decode cX11_noRider 4 = .ok (.getfield 67, 3) := by decide +kernel
theorem dX11_noRider_7 : decode cX11_noRider 7 = .ok (.iconst 1, 1) := by decide +kernel
theorem dX11_noRider_8 : decode cX11_noRider 8 = .ok (.isub, 1) := by decide +kernel
theorem dX11_noRider_9 : decode cX11_noRider 9 = .ok (.i2l, 1) := by decide +kernel
theorem dX11_noRider_10 : decode cX11_noRider 10 = .ok (.invokestatic 63, 3) := by decide +kernel
theorem dX11_noRider_13 : decode cX11_noRider 13 = .ok (.ifCond .ne 7, 3) := by decide +kernel
theorem dX11_noRider_16 : decode cX11_noRider 16 = .ok (.iconst 1, 1) := by decide +kernel
theorem dX11_noRider_17 : decode cX11_noRider 17 = .ok (.goto 4, 3) := by decide +kernel
theorem dX11_noRider_20 : decode cX11_noRider 20 = .ok (.iconst 0, 1) := by decide +kernel
theorem dX11_noRider_21 : decode cX11_noRider 21 = .ok (.ireturn, 1) := by decide +kernel
theorem dX11_write_0 : decode cX11_write 0 = .ok (.aload_n 0, 1) := by decide +kernel
theorem dX11_write_1 : decode cX11_write 1 = .ok (.iconst 0, 1) := by decide +kernel
theorem dX11_write_2 : decode cX11_write 2 = .ok (.putfield 56, 3) := by decide +kernel
theorem dX11_write_5 : decode cX11_write 5 = .ok (.iload_n 1, 1) := by decide +kernel
theorem dX11_write_6 : decode cX11_write 6 = .ok (.i2l, 1) := by decide +kernel
theorem dX11_write_7 : decode cX11_write 7 = .ok (.lconst 0, 1) := by decide +kernel
theorem dX11_write_8 : decode cX11_write 8 = .ok (.ldc2_w 70, 3) := by decide +kernel
theorem dX11_write_11 : decode cX11_write 11 = .ok (.invokestatic 63, 3) := by decide +kernel
theorem dX11_write_14 : decode cX11_write 14 = .ok (.ifCond .ne 6, 3) := by decide +kernel
theorem dX11_write_17 : decode cX11_write 17 = .ok (.bipush (-2), 2) := by decide +kernel
theorem dX11_write_19 : decode cX11_write 19 = .ok (.ireturn, 1) := by decide +kernel
theorem dX11_write_20 : decode cX11_write 20 = .ok (.aload_n 0, 1) := by decide +kernel
theorem dX11_write_21 : decode cX11_write 21 = .ok (.getfield 72, 3) := by decide +kernel
theorem dX11_write_24 : decode cX11_write 24 = .ok (.bipush 64, 2) := by decide +kernel
theorem dX11_write_26 : decode cX11_write 26 = .ok (.if_icmp .ne 6, 3) := by decide +kernel
theorem dX11_write_29 : decode cX11_write 29 = .ok (.bipush (-4), 2) := by decide +kernel
theorem dX11_write_31 : decode cX11_write 31 = .ok (.ireturn, 1) := by decide +kernel
theorem dX11_write_32 : decode cX11_write 32 = .ok (.aload_n 0, 1) := by decide +kernel
theorem dX11_write_33 : decode cX11_write 33 = .ok (.getfield 7, 3) := by decide +kernel
theorem dX11_write_36 : decode cX11_write 36 = .ok (.aload_n 0, 1) := by decide +kernel
theorem dX11_write_37 : decode cX11_write 37 = .ok (.getfield 72, 3) := by decide +kernel
theorem dX11_write_40 : decode cX11_write 40 = .ok (.iload_n 1, 1) := by decide +kernel
theorem dX11_write_41 : decode cX11_write 41 = .ok (.iastore, 1) := by decide +kernel
theorem dX11_write_42 : decode cX11_write 42 = .ok (.aload_n 0, 1) := by decide +kernel
theorem dX11_write_43 : decode cX11_write 43 = .ok (.dup, 1) := by decide +kernel
theorem dX11_write_44 : decode cX11_write 44 = .ok (.getfield 72, 3) := by decide +kernel
theorem dX11_write_47 : decode cX11_write 47 = .ok (.iconst 1, 1) := by decide +kernel
theorem dX11_write_48 : decode cX11_write 48 = .ok (.iadd, 1) := by decide +kernel
theorem dX11_write_49 : decode cX11_write 49 = .ok (.putfield 72, 3) := by decide +kernel
theorem dX11_write_52 : decode cX11_write 52 = .ok (.aload_n 0, 1) := by decide +kernel
theorem dX11_write_53 : decode cX11_write 53 = .ok (.getfield 72, 3) := by decide +kernel
theorem dX11_write_56 : decode cX11_write 56 = .ok (.ireturn, 1) := by decide +kernel
theorem dX11_wipe_0 : decode cX11_wipe 0 = .ok (.aload_n 0, 1) := by decide +kernel
theorem dX11_wipe_1 : decode cX11_wipe 1 = .ok (.iconst 0, 1) := by decide +kernel
theorem dX11_wipe_2 : decode cX11_wipe 2 = .ok (.putfield 56, 3) := by decide +kernel
theorem dX11_wipe_5 : decode cX11_wipe 5 = .ok (.aload_n 0, 1) := by decide +kernel
theorem dX11_wipe_6 : decode cX11_wipe 6 = .ok (.getfield 72, 3) := by decide +kernel
theorem dX11_wipe_9 : decode cX11_wipe 9 = .ok (.istore_n 1, 1) := by decide +kernel
theorem dX11_wipe_10 : decode cX11_wipe 10 = .ok (.aload_n 0, 1) := by decide +kernel
theorem dX11_wipe_11 : decode cX11_wipe 11 = .ok (.iconst 0, 1) := by decide +kernel
theorem dX11_wipe_12 : decode cX11_wipe 12 = .ok (.putfield 72, 3) := by decide +kernel
theorem dX11_wipe_15 : decode cX11_wipe 15 = .ok (.iload_n 1, 1) := by decide +kernel
theorem dX11_wipe_16 : decode cX11_wipe 16 = .ok (.ireturn, 1) := by decide +kernel
theorem dX11_figure_0 : decode cX11_figure 0 = .ok (.aload_n 0, 1) := by decide +kernel
theorem dX11_figure_1 : decode cX11_figure 1 = .ok (.getfield 75, 3) := by decide +kernel
theorem dX11_figure_4 : decode cX11_figure 4 = .ok (.aload_n 0, 1) := by decide +kernel
theorem dX11_figure_5 : decode cX11_figure 5 = .ok (.getfield 72, 3) := by decide +kernel
theorem dX11_figure_8 : decode cX11_figure 8 = .ok (.if_icmp .eq 26, 3) := by decide +kernel
theorem dX11_figure_11 : decode cX11_figure 11 = .ok (.aload_n 0, 1) := by decide +kernel
theorem dX11_figure_12 : decode cX11_figure 12 = .ok (.getfield 7, 3) := by decide +kernel
theorem dX11_figure_15 : decode cX11_figure 15 = .ok (.aload_n 0, 1) := by decide +kernel
theorem dX11_figure_16 : decode cX11_figure 16 = .ok (.getfield 75, 3) := by decide +kernel
theorem dX11_figure_19 : decode cX11_figure 19 = .ok (.iaload, 1) := by decide +kernel
theorem dX11_figure_20 : decode cX11_figure 20 = .ok (.bipush 48, 2) := by decide +kernel
theorem dX11_figure_22 : decode cX11_figure 22 = .ok (.isub, 1) := by decide +kernel
theorem dX11_figure_23 : decode cX11_figure 23 = .ok (.i2l, 1) := by decide +kernel
theorem dX11_figure_24 : decode cX11_figure 24 = .ok (.iload_n 1, 1) := by decide +kernel
theorem dX11_figure_25 : decode cX11_figure 25 = .ok (.i2l, 1) := by decide +kernel
theorem dX11_figure_26 : decode cX11_figure 26 = .ok (.iload_n 2, 1) := by decide +kernel
theorem dX11_figure_27 : decode cX11_figure 27 = .ok (.i2l, 1) := by decide +kernel
theorem dX11_figure_28 : decode cX11_figure 28 = .ok (.invokestatic 63, 3) := by decide +kernel
theorem dX11_figure_31 : decode cX11_figure 31 = .ok (.ifCond .ne 6, 3) := by decide +kernel
theorem dX11_figure_34 : decode cX11_figure 34 = .ok (.bipush (-9), 2) := by decide +kernel
theorem dX11_figure_36 : decode cX11_figure 36 = .ok (.ireturn, 1) := by decide +kernel
theorem dX11_figure_37 : decode cX11_figure 37 = .ok (.aload_n 0, 1) := by decide +kernel
theorem dX11_figure_38 : decode cX11_figure 38 = .ok (.dup, 1) := by decide +kernel
theorem dX11_figure_39 : decode cX11_figure 39 = .ok (.getfield 75, 3) := by decide +kernel
theorem dX11_figure_42 : decode cX11_figure 42 = .ok (.iconst 1, 1) := by decide +kernel
theorem dX11_figure_43 : decode cX11_figure 43 = .ok (.iadd, 1) := by decide +kernel
theorem dX11_figure_44 : decode cX11_figure 44 = .ok (.putfield 75, 3) := by decide +kernel
theorem dX11_figure_47 : decode cX11_figure 47 = .ok (.aload_n 0, 1) := by decide +kernel
theorem dX11_figure_48 : decode cX11_figure 48 = .ok (.getfield 7, 3) := by decide +kernel
theorem dX11_figure_51 : decode cX11_figure 51 = .ok (.aload_n 0, 1) := by decide +kernel
theorem dX11_figure_52 : decode cX11_figure 52 = .ok (.getfield 75, 3) := by decide +kernel
theorem dX11_figure_55 : decode cX11_figure 55 = .ok (.iconst 1, 1) := by decide +kernel
theorem dX11_figure_56 : decode cX11_figure 56 = .ok (.isub, 1) := by decide +kernel
theorem dX11_figure_57 : decode cX11_figure 57 = .ok (.iaload, 1) := by decide +kernel
theorem dX11_figure_58 : decode cX11_figure 58 = .ok (.bipush 48, 2) := by decide +kernel
theorem dX11_figure_60 : decode cX11_figure 60 = .ok (.isub, 1) := by decide +kernel
theorem dX11_figure_61 : decode cX11_figure 61 = .ok (.ireturn, 1) := by decide +kernel
theorem dX11_readHorse_0 : decode cX11_readHorse 0 = .ok (.bipush 7, 2) := by decide +kernel
theorem dX11_readHorse_2 : decode cX11_readHorse 2 = .ok (.aload_n 0, 1) := by decide +kernel
theorem dX11_readHorse_3 : decode cX11_readHorse 3 = .ok (.getfield 78, 3) := by decide +kernel
theorem dX11_readHorse_6 : decode cX11_readHorse 6 = .ok (.imul, 1) := by decide +kernel
theorem dX11_readHorse_7 : decode cX11_readHorse 7 = .ok (.istore_n 1, 1) := by decide +kernel
theorem dX11_readHorse_8 : decode cX11_readHorse 8 = .ok (.iconst 0, 1) := by decide +kernel
theorem dX11_readHorse_9 : decode cX11_readHorse 9 = .ok (.istore_n 2, 1) := by decide +kernel
theorem dX11_readHorse_10 : decode cX11_readHorse 10 = .ok (.iconst 0, 1) := by decide +kernel
theorem dX11_readHorse_11 : decode cX11_readHorse 11 = .ok (.istore_n 3, 1) := by decide +kernel
theorem dX11_readHorse_12 : decode cX11_readHorse 12 = .ok (.iload_n 3, 1) := by decide +kernel
theorem dX11_readHorse_13 : decode cX11_readHorse 13 = .ok (.bipush 8, 2) := by decide +kernel
theorem dX11_readHorse_15 : decode cX11_readHorse 15 = .ok (.if_icmp .ge 134, 3) := by decide +kernel
theorem dX11_readHorse_18 : decode cX11_readHorse 18 = .ok (.iload_n 3, 1) := by decide +kernel
theorem dX11_readHorse_19 : decode cX11_readHorse 19 = .ok (.ifCond .ne 12, 3) := by decide +kernel
theorem dX11_readHorse_22 : decode cX11_readHorse 22 = .ok (.aload_n 0, 1) := by decide +kernel
theorem dX11_readHorse_23 : decode cX11_readHorse 23 = .ok (.iconst 1, 1) := by decide +kernel
theorem dX11_readHorse_24 : decode cX11_readHorse 24 = .ok (.iconst 3, 1) := by decide +kernel
theorem dX11_readHorse_25 : decode cX11_readHorse 25 = .ok (.invokevirtual 81, 3) := by decide +kernel
theorem dX11_readHorse_28 : decode cX11_readHorse 28 = .ok (.goto 66, 3) := by decide +kernel
theorem dX11_readHorse_31 : decode cX11_readHorse 31 = .ok (.iload_n 3, 1) := by decide +kernel
theorem dX11_readHorse_32 : decode cX11_readHorse 32 = .ok (.iconst 4, 1) := by decide +kernel
theorem dX11_readHorse_33 : decode cX11_readHorse 33 = .ok (.if_icmp .ge 12, 3) := by decide +kernel
theorem dX11_readHorse_36 : decode cX11_readHorse 36 = .ok (.aload_n 0, 1) := by decide +kernel
theorem dX11_readHorse_37 : decode cX11_readHorse 37 = .ok (.iconst 0, 1) := by decide +kernel
theorem dX11_readHorse_38 : decode cX11_readHorse 38 = .ok (.iconst 3, 1) := by decide +kernel
theorem dX11_readHorse_39 : decode cX11_readHorse 39 = .ok (.invokevirtual 81, 3) := by decide +kernel
theorem dX11_readHorse_42 : decode cX11_readHorse 42 = .ok (.goto 52, 3) := by decide +kernel
theorem dX11_readHorse_45 : decode cX11_readHorse 45 = .ok (.iload_n 3, 1) := by decide +kernel
theorem dX11_readHorse_46 : decode cX11_readHorse 46 = .ok (.bipush 6, 2) := by decide +kernel
theorem dX11_readHorse_48 : decode cX11_readHorse 48 = .ok (.if_icmp .ge 13, 3) := by decide +kernel
theorem dX11_readHorse_51 : decode cX11_readHorse 51 = .ok (.aload_n 0, 1) := by decide +kernel
theorem dX11_readHorse_52 : decode cX11_readHorse 52 = .ok (.iconst 0, 1) := by decide +kernel
theorem dX11_readHorse_53 : decode cX11_readHorse 53 = .ok (.bipush 9, 2) := by decide +kernel
theorem dX11_readHorse_55 : decode cX11_readHorse 55 = .ok (.invokevirtual 81, 3) := by decide +kernel
theorem dX11_readHorse_58 : decode cX11_readHorse 58 = .ok (.goto 36, 3) := by decide +kernel
theorem dX11_readHorse_61 : decode cX11_readHorse 61 = .ok (.iload_n 3, 1) := by decide +kernel
theorem dX11_readHorse_62 : decode cX11_readHorse 62 = .ok (.bipush 6, 2) := by decide +kernel
theorem dX11_readHorse_64 : decode cX11_readHorse 64 = .ok (.if_icmp .ne 13, 3) := by decide +kernel
theorem dX11_readHorse_67 : decode cX11_readHorse 67 = .ok (.aload_n 0, 1) := by decide +kernel
theorem dX11_readHorse_68 : decode cX11_readHorse 68 = .ok (.iconst 0, 1) := by decide +kernel
theorem dX11_readHorse_69 : decode cX11_readHorse 69 = .ok (.bipush 8, 2) := by decide +kernel
theorem dX11_readHorse_71 : decode cX11_readHorse 71 = .ok (.invokevirtual 81, 3) := by decide +kernel
theorem dX11_readHorse_74 : decode cX11_readHorse 74 = .ok (.goto 20, 3) := by decide +kernel
theorem dX11_readHorse_77 : decode cX11_readHorse 77 = .ok (.aload_n 0, 1) := by decide +kernel
theorem dX11_readHorse_78 : decode cX11_readHorse 78 = .ok (.iconst 0, 1) := by decide +kernel
theorem dX11_readHorse_79 : decode cX11_readHorse 79 = .ok (.iload_n 2, 1) := by decide +kernel
theorem dX11_readHorse_80 : decode cX11_readHorse 80 = .ok (.bipush 8, 2) := by decide +kernel
theorem dX11_readHorse_82 : decode cX11_readHorse 82 = .ok (.if_icmp .ne 7, 3) := by decide +kernel
theorem dX11_readHorse_85 : decode cX11_readHorse 85 = .ok (.iconst 1, 1) := by decide +kernel
theorem dX11_readHorse_86 : decode cX11_readHorse 86 = .ok (.goto 5, 3) := by decide +kernel
theorem dX11_readHorse_89 : decode cX11_readHorse 89 = .ok (.bipush 9, 2) := by decide +kernel
theorem dX11_readHorse_91 : decode cX11_readHorse 91 = .ok (.invokevirtual 81, 3) := by decide +kernel
theorem dX11_readHorse_94 : decode cX11_readHorse 94 = .ok (.istore 4, 2) := by decide +kernel
theorem dX11_readHorse_96 : decode cX11_readHorse 96 = .ok (.iload 4, 2) := by decide +kernel
theorem dX11_readHorse_98 : decode cX11_readHorse 98 = .ok (.bipush (-9), 2) := by decide +kernel
theorem dX11_readHorse_100 : decode cX11_readHorse 100 = .ok (.if_icmp .ne 5, 3) := by decide +kernel
theorem dX11_readHorse_103 : decode cX11_readHorse 103 = .ok (.iconst 0, 1) := by decide +kernel
theorem dX11_readHorse_104 : decode cX11_readHorse 104 = .ok (.ireturn, 1) := by decide +kernel
theorem dX11_readHorse_105 : decode cX11_readHorse 105 = .ok (.iload_n 3, 1) := by decide +kernel
theorem dX11_readHorse_106 : decode cX11_readHorse 106 = .ok (.bipush 6, 2) := by decide +kernel
theorem dX11_readHorse_108 : decode cX11_readHorse 108 = .ok (.if_icmp .ge 16, 3) := by decide +kernel
theorem dX11_readHorse_111 : decode cX11_readHorse 111 = .ok (.aload_n 0, 1) := by decide +kernel
theorem dX11_readHorse_112 : decode cX11_readHorse 112 = .ok (.getfield 19, 3) := by decide +kernel
theorem dX11_readHorse_115 : decode cX11_readHorse 115 = .ok (.iload_n 1, 1) := by decide +kernel
theorem dX11_readHorse_116 : decode cX11_readHorse 116 = .ok (.iload_n 3, 1) := by decide +kernel
theorem dX11_readHorse_117 : decode cX11_readHorse 117 = .ok (.iadd, 1) := by decide +kernel
theorem dX11_readHorse_118 : decode cX11_readHorse 118 = .ok (.iload 4, 2) := by decide +kernel
theorem dX11_readHorse_120 : decode cX11_readHorse 120 = .ok (.iastore, 1) := by decide +kernel
theorem dX11_readHorse_121 : decode cX11_readHorse 121 = .ok (.goto 22, 3) := by decide +kernel
theorem dX11_readHorse_124 : decode cX11_readHorse 124 = .ok (.aload_n 0, 1) := by decide +kernel
theorem dX11_readHorse_125 : decode cX11_readHorse 125 = .ok (.getfield 19, 3) := by decide +kernel
theorem dX11_readHorse_128 : decode cX11_readHorse 128 = .ok (.iload_n 1, 1) := by decide +kernel
theorem dX11_readHorse_129 : decode cX11_readHorse 129 = .ok (.bipush 6, 2) := by decide +kernel
theorem dX11_readHorse_131 : decode cX11_readHorse 131 = .ok (.iadd, 1) := by decide +kernel
theorem dX11_readHorse_132 : decode cX11_readHorse 132 = .ok (.bipush 10, 2) := by decide +kernel
theorem dX11_readHorse_134 : decode cX11_readHorse 134 = .ok (.iload_n 2, 1) := by decide +kernel
theorem dX11_readHorse_135 : decode cX11_readHorse 135 = .ok (.imul, 1) := by decide +kernel
theorem dX11_readHorse_136 : decode cX11_readHorse 136 = .ok (.iload 4, 2) := by decide +kernel
theorem dX11_readHorse_138 : decode cX11_readHorse 138 = .ok (.iadd, 1) := by decide +kernel
theorem dX11_readHorse_139 : decode cX11_readHorse 139 = .ok (.iastore, 1) := by decide +kernel
theorem dX11_readHorse_140 : decode cX11_readHorse 140 = .ok (.iload 4, 2) := by decide +kernel
theorem dX11_readHorse_142 : decode cX11_readHorse 142 = .ok (.istore_n 2, 1) := by decide +kernel
theorem dX11_readHorse_143 : decode cX11_readHorse 143 = .ok (.iinc 3 1, 3) := by decide +kernel
theorem dX11_readHorse_146 : decode cX11_readHorse 146 = .ok (.goto (-134), 3) := by decide +kernel
theorem dX11_readHorse_149 : decode cX11_readHorse 149 = .ok (.aload_n 0, 1) := by decide +kernel
theorem dX11_readHorse_150 : decode cX11_readHorse 150 = .ok (.dup, 1) := by decide +kernel
theorem dX11_readHorse_151 : decode cX11_readHorse 151 = .ok (.getfield 78, 3) := by decide +kernel
theorem dX11_readHorse_154 : decode cX11_readHorse 154 = .ok (.iconst 1, 1) := by decide +kernel
theorem dX11_readHorse_155 : decode cX11_readHorse 155 = .ok (.iadd, 1) := by decide +kernel
theorem dX11_readHorse_156 : decode cX11_readHorse 156 = .ok (.putfield 78, 3) := by decide +kernel
theorem dX11_readHorse_159 : decode cX11_readHorse 159 = .ok (.iconst 1, 1) := by decide +kernel
theorem dX11_readHorse_160 : decode cX11_readHorse 160 = .ok (.ireturn, 1) := by decide +kernel
theorem dX11_readRider_0 : decode cX11_readRider 0 = .ok (.iconst 0, 1) := by decide +kernel
theorem dX11_readRider_1 : decode cX11_readRider 1 = .ok (.istore_n 1, 1) := by decide +kernel
theorem dX11_readRider_2 : decode cX11_readRider 2 = .ok (.iload_n 1, 1) := by decide +kernel
theorem dX11_readRider_3 : decode cX11_readRider 3 = .ok (.iconst 4, 1) := by decide +kernel
theorem dX11_readRider_4 : decode cX11_readRider 4 = .ok (.if_icmp .ge 53, 3) := by decide +kernel
theorem dX11_readRider_7 : decode cX11_readRider 7 = .ok (.iload_n 1, 1) := by decide +kernel
theorem dX11_readRider_8 : decode cX11_readRider 8 = .ok (.iconst 3, 1) := by decide +kernel
theorem dX11_readRider_9 : decode cX11_readRider 9 = .ok (.if_icmp .ge 13, 3) := by decide +kernel
theorem dX11_readRider_12 : decode cX11_readRider 12 = .ok (.aload_n 0, 1) := by decide +kernel
theorem dX11_readRider_13 : decode cX11_readRider 13 = .ok (.iconst 0, 1) := by decide +kernel
theorem dX11_readRider_14 : decode cX11_readRider 14 = .ok (.bipush 9, 2) := by decide +kernel
theorem dX11_readRider_16 : decode cX11_readRider 16 = .ok (.invokevirtual 81, 3) := by decide +kernel
theorem dX11_readRider_19 : decode cX11_readRider 19 = .ok (.goto 9, 3) := by decide +kernel
theorem dX11_readRider_22 : decode cX11_readRider 22 = .ok (.aload_n 0, 1) := by decide +kernel
theorem dX11_readRider_23 : decode cX11_readRider 23 = .ok (.iconst 0, 1) := by decide +kernel
theorem dX11_readRider_24 : decode cX11_readRider 24 = .ok (.iconst 3, 1) := by decide +kernel
theorem dX11_readRider_25 : decode cX11_readRider 25 = .ok (.invokevirtual 81, 3) := by decide +kernel
theorem dX11_readRider_28 : decode cX11_readRider 28 = .ok (.istore_n 2, 1) := by decide +kernel
theorem dX11_readRider_29 : decode cX11_readRider 29 = .ok (.iload_n 2, 1) := by decide +kernel
theorem dX11_readRider_30 : decode cX11_readRider 30 = .ok (.bipush (-9), 2) := by decide +kernel
theorem dX11_readRider_32 : decode cX11_readRider 32 = .ok (.if_icmp .ne 5, 3) := by decide +kernel
theorem dX11_readRider_35 : decode cX11_readRider 35 = .ok (.iconst 0, 1) := by decide +kernel
theorem dX11_readRider_36 : decode cX11_readRider 36 = .ok (.ireturn, 1) := by decide +kernel
theorem dX11_readRider_37 : decode cX11_readRider 37 = .ok (.aload_n 0, 1) := by decide +kernel
theorem dX11_readRider_38 : decode cX11_readRider 38 = .ok (.getfield 22, 3) := by decide +kernel
theorem dX11_readRider_41 : decode cX11_readRider 41 = .ok (.iconst 4, 1) := by decide +kernel
theorem dX11_readRider_42 : decode cX11_readRider 42 = .ok (.aload_n 0, 1) := by decide +kernel
theorem dX11_readRider_43 : decode cX11_readRider 43 = .ok (.getfield 85, 3) := by decide +kernel
theorem dX11_readRider_46 : decode cX11_readRider 46 = .ok (.imul, 1) := by decide +kernel
theorem dX11_readRider_47 : decode cX11_readRider 47 = .ok (.iload_n 1, 1) := by decide +kernel
theorem dX11_readRider_48 : decode cX11_readRider 48 = .ok (.iadd, 1) := by decide +kernel
theorem dX11_readRider_49 : decode cX11_readRider 49 = .ok (.iload_n 2, 1) := by decide +kernel
theorem dX11_readRider_50 : decode cX11_readRider 50 = .ok (.iastore, 1) := by decide +kernel
theorem dX11_readRider_51 : decode cX11_readRider 51 = .ok (.iinc 1 1, 3) := by decide +kernel
theorem dX11_readRider_54 : decode cX11_readRider 54 = .ok (.goto (-52), 3) := by decide +kernel
theorem dX11_readRider_57 : decode cX11_readRider 57 = .ok (.aload_n 0, 1) := by decide +kernel
theorem dX11_readRider_58 : decode cX11_readRider 58 = .ok (.dup, 1) := by decide +kernel
theorem dX11_readRider_59 : decode cX11_readRider 59 = .ok (.getfield 85, 3) := by decide +kernel
theorem dX11_readRider_62 : decode cX11_readRider 62 = .ok (.iconst 1, 1) := by decide +kernel
theorem dX11_readRider_63 : decode cX11_readRider 63 = .ok (.iadd, 1) := by decide +kernel
theorem dX11_readRider_64 : decode cX11_readRider 64 = .ok (.putfield 85, 3) := by decide +kernel
theorem dX11_readRider_67 : decode cX11_readRider 67 = .ok (.iconst 1, 1) := by decide +kernel
theorem dX11_readRider_68 : decode cX11_readRider 68 = .ok (.ireturn, 1) := by decide +kernel
theorem dX11_readPart_0 : decode cX11_readPart 0 = .ok (.aload_n 0, 1) := by decide +kernel
theorem dX11_readPart_1 : decode cX11_readPart 1 = .ok (.getfield 7, 3) := by decide +kernel
theorem dX11_readPart_4 : decode cX11_readPart 4 = .ok (.aload_n 0, 1) := by decide +kernel
theorem dX11_readPart_5 : decode cX11_readPart 5 = .ok (.getfield 75, 3) := by decide +kernel
theorem dX11_readPart_8 : decode cX11_readPart 8 = .ok (.iaload, 1) := by decide +kernel
theorem dX11_readPart_9 : decode cX11_readPart 9 = .ok (.istore_n 1, 1) := by decide +kernel
theorem dX11_readPart_10 : decode cX11_readPart 10 = .ok (.iload_n 1, 1) := by decide +kernel
theorem dX11_readPart_11 : decode cX11_readPart 11 = .ok (.bipush 72, 2) := by decide +kernel
theorem dX11_readPart_13 : decode cX11_readPart 13 = .ok (.if_icmp .ne 26, 3) := by decide +kernel
theorem dX11_readPart_16 : decode cX11_readPart 16 = .ok (.aload_n 0, 1) := by decide +kernel
theorem dX11_readPart_17 : decode cX11_readPart 17 = .ok (.getfield 78, 3) := by decide +kernel
theorem dX11_readPart_20 : decode cX11_readPart 20 = .ok (.iconst 4, 1) := by decide +kernel
theorem dX11_readPart_21 : decode cX11_readPart 21 = .ok (.if_icmp .ge 18, 3) := by decide +kernel
theorem dX11_readPart_24 : decode cX11_readPart 24 = .ok (.aload_n 0, 1) := by decide +kernel
theorem dX11_readPart_25 : decode cX11_readPart 25 = .ok (.dup, 1) := by decide +kernel
theorem dX11_readPart_26 : decode cX11_readPart 26 = .ok (.getfield 75, 3) := by decide +kernel
theorem dX11_readPart_29 : decode cX11_readPart 29 = .ok (.iconst 1, 1) := by decide +kernel
theorem dX11_readPart_30 : decode cX11_readPart 30 = .ok (.iadd, 1) := by decide +kernel
theorem dX11_readPart_31 : decode cX11_readPart 31 = .ok (.putfield 75, 3) := by decide +kernel
theorem dX11_readPart_34 : decode cX11_readPart 34 = .ok (.aload_n 0, 1) := by decide +kernel
theorem dX11_readPart_35 : decode cX11_readPart 35 = .ok (.invokevirtual 88, 3) := by decide +kernel
theorem dX11_readPart_38 : decode cX11_readPart 38 = .ok (.ireturn, 1) := by decide +kernel
theorem dX11_readPart_39 : decode cX11_readPart 39 = .ok (.iload_n 1, 1) := by decide +kernel
theorem dX11_readPart_40 : decode cX11_readPart 40 = .ok (.bipush 82, 2) := by decide +kernel
theorem dX11_readPart_42 : decode cX11_readPart 42 = .ok (.if_icmp .ne 26, 3) := by decide +kernel
theorem dX11_readPart_45 : decode cX11_readPart 45 = .ok (.aload_n 0, 1) := by decide +kernel
theorem dX11_readPart_46 : decode cX11_readPart 46 = .ok (.getfield 85, 3) := by decide +kernel
theorem dX11_readPart_49 : decode cX11_readPart 49 = .ok (.iconst 5, 1) := by decide +kernel
theorem dX11_readPart_50 : decode cX11_readPart 50 = .ok (.if_icmp .ge 18, 3) := by decide +kernel
theorem dX11_readPart_53 : decode cX11_readPart 53 = .ok (.aload_n 0, 1) := by decide +kernel
theorem dX11_readPart_54 : decode cX11_readPart 54 = .ok (.dup, 1) := by decide +kernel
theorem dX11_readPart_55 : decode cX11_readPart 55 = .ok (.getfield 75, 3) := by decide +kernel
theorem dX11_readPart_58 : decode cX11_readPart 58 = .ok (.iconst 1, 1) := by decide +kernel
theorem dX11_readPart_59 : decode cX11_readPart 59 = .ok (.iadd, 1) := by decide +kernel
theorem dX11_readPart_60 : decode cX11_readPart 60 = .ok (.putfield 75, 3) := by decide +kernel
theorem dX11_readPart_63 : decode cX11_readPart 63 = .ok (.aload_n 0, 1) := by decide +kernel
theorem dX11_readPart_64 : decode cX11_readPart 64 = .ok (.invokevirtual 91, 3) := by decide +kernel
theorem dX11_readPart_67 : decode cX11_readPart 67 = .ok (.ireturn, 1) := by decide +kernel
theorem dX11_readPart_68 : decode cX11_readPart 68 = .ok (.iconst 0, 1) := by decide +kernel
theorem dX11_readPart_69 : decode cX11_readPart 69 = .ok (.ireturn, 1) := by decide +kernel
theorem dX11_readFair_0 : decode cX11_readFair 0 = .ok (.aload_n 0, 1) := by decide +kernel
theorem dX11_readFair_1 : decode cX11_readFair 1 = .ok (.iconst 0, 1) := by decide +kernel
theorem dX11_readFair_2 : decode cX11_readFair 2 = .ok (.putfield 75, 3) := by decide +kernel
theorem dX11_readFair_5 : decode cX11_readFair 5 = .ok (.aload_n 0, 1) := by decide +kernel
theorem dX11_readFair_6 : decode cX11_readFair 6 = .ok (.iconst 0, 1) := by decide +kernel
theorem dX11_readFair_7 : decode cX11_readFair 7 = .ok (.putfield 78, 3) := by decide +kernel
theorem dX11_readFair_10 : decode cX11_readFair 10 = .ok (.aload_n 0, 1) := by decide +kernel
theorem dX11_readFair_11 : decode cX11_readFair 11 = .ok (.iconst 0, 1) := by decide +kernel
theorem dX11_readFair_12 : decode cX11_readFair 12 = .ok (.putfield 85, 3) := by decide +kernel
theorem dX11_readFair_15 : decode cX11_readFair 15 = .ok (.aload_n 0, 1) := by decide +kernel
theorem dX11_readFair_16 : decode cX11_readFair 16 = .ok (.getfield 72, 3) := by decide +kernel
theorem dX11_readFair_19 : decode cX11_readFair 19 = .ok (.ifCond .eq 14, 3) := by decide +kernel
theorem dX11_readFair_22 : decode cX11_readFair 22 = .ok (.aload_n 0, 1) := by decide +kernel
theorem dX11_readFair_23 : decode cX11_readFair 23 = .ok (.getfield 7, 3) := by decide +kernel
theorem dX11_readFair_26 : decode cX11_readFair 26 = .ok (.iconst 0, 1) := by decide +kernel
theorem dX11_readFair_27 : decode cX11_readFair 27 = .ok (.iaload, 1) := by decide +kernel
theorem dX11_readFair_28 : decode cX11_readFair 28 = .ok (.bipush 70, 2) := by decide +kernel
theorem dX11_readFair_30 : decode cX11_readFair 30 = .ok (.if_icmp .eq 5, 3) := by decide +kernel
theorem dX11_readFair_33 : decode cX11_readFair 33 = .ok (.iconst 0, 1) := by decide +kernel
theorem dX11_readFair_34 : decode cX11_readFair 34 = .ok (.ireturn, 1) := by decide +kernel
theorem dX11_readFair_35 : decode cX11_readFair 35 = .ok (.aload_n 0, 1) := by decide +kernel
theorem dX11_readFair_36 : decode cX11_readFair 36 = .ok (.iconst 1, 1) := by decide +kernel
theorem dX11_readFair_37 : decode cX11_readFair 37 = .ok (.putfield 75, 3) := by decide +kernel
theorem dX11_readFair_40 : decode cX11_readFair 40 = .ok (.aload_n 0, 1) := by decide +kernel
theorem dX11_readFair_41 : decode cX11_readFair 41 = .ok (.getfield 75, 3) := by decide +kernel
theorem dX11_readFair_44 : decode cX11_readFair 44 = .ok (.aload_n 0, 1) := by decide +kernel
theorem dX11_readFair_45 : decode cX11_readFair 45 = .ok (.getfield 72, 3) := by decide +kernel
theorem dX11_readFair_48 : decode cX11_readFair 48 = .ok (.if_icmp .ge 15, 3) := by decide +kernel
theorem dX11_readFair_51 : decode cX11_readFair 51 = .ok (.aload_n 0, 1) := by decide +kernel
theorem dX11_readFair_52 : decode cX11_readFair 52 = .ok (.invokevirtual 93, 3) := by decide +kernel
theorem dX11_readFair_55 : decode cX11_readFair 55 = .ok (.ifCond .ne (-15), 3) := by decide +kernel
theorem dX11_readFair_58 : decode cX11_readFair 58 = .ok (.aload_n 0, 1) := by decide +kernel
theorem dX11_readFair_59 : decode cX11_readFair 59 = .ok (.getfield 75, 3) := by decide +kernel
theorem dX11_readFair_62 : decode cX11_readFair 62 = .ok (.ireturn, 1) := by decide +kernel
theorem dX11_readFair_63 : decode cX11_readFair 63 = .ok (.bipush (-9), 2) := by decide +kernel
theorem dX11_readFair_65 : decode cX11_readFair 65 = .ok (.ireturn, 1) := by decide +kernel
theorem dX11_fault_0 : decode cX11_fault 0 = .ok (.aload_n 0, 1) := by decide +kernel
theorem dX11_fault_1 : decode cX11_fault 1 = .ok (.iconst 0, 1) := by decide +kernel
theorem dX11_fault_2 : decode cX11_fault 2 = .ok (.putfield 56, 3) := by decide +kernel
theorem dX11_fault_5 : decode cX11_fault 5 = .ok (.aload_n 0, 1) := by decide +kernel
theorem dX11_fault_6 : decode cX11_fault 6 = .ok (.invokevirtual 96, 3) := by decide +kernel
theorem dX11_fault_9 : decode cX11_fault 9 = .ok (.ireturn, 1) := by decide +kernel
theorem dX11_fair_0 : decode cX11_fair 0 = .ok (.aload_n 0, 1) := by decide +kernel
theorem dX11_fair_1 : decode cX11_fair 1 = .ok (.iconst 0, 1) := by decide +kernel
theorem dX11_fair_2 : decode cX11_fair 2 = .ok (.putfield 56, 3) := by decide +kernel
theorem dX11_fair_5 : decode cX11_fair 5 = .ok (.aload_n 0, 1) := by decide +kernel
theorem dX11_fair_6 : decode cX11_fair 6 = .ok (.invokevirtual 96, 3) := by decide +kernel
theorem dX11_fair_9 : decode cX11_fair 9 = .ok (.bipush (-9), 2) := by decide +kernel
theorem dX11_fair_11 : decode cX11_fair 11 = .ok (.if_icmp .eq 6, 3) := by decide +kernel
theorem dX11_fair_14 : decode cX11_fair 14 = .ok (.bipush (-3), 2) := by decide +kernel
theorem dX11_fair_16 : decode cX11_fair 16 = .ok (.ireturn, 1) := by decide +kernel
theorem dX11_fair_17 : decode cX11_fair 17 = .ok (.aload_n 0, 1) := by decide +kernel
theorem dX11_fair_18 : decode cX11_fair 18 = .ok (.aload_n 0, 1) := by decide +kernel
theorem dX11_fair_19 : decode cX11_fair 19 = .ok (.getfield 78, 3) := by decide +kernel
theorem dX11_fair_22 : decode cX11_fair 22 = .ok (.putfield 60, 3) := by decide +kernel
theorem dX11_fair_25 : decode cX11_fair 25 = .ok (.aload_n 0, 1) := by decide +kernel
theorem dX11_fair_26 : decode cX11_fair 26 = .ok (.aload_n 0, 1) := by decide +kernel
theorem dX11_fair_27 : decode cX11_fair 27 = .ok (.getfield 85, 3) := by decide +kernel
theorem dX11_fair_30 : decode cX11_fair 30 = .ok (.putfield 67, 3) := by decide +kernel
theorem dX11_fair_33 : decode cX11_fair 33 = .ok (.iconst 0, 1) := by decide +kernel
theorem dX11_fair_34 : decode cX11_fair 34 = .ok (.istore_n 1, 1) := by decide +kernel
theorem dX11_fair_35 : decode cX11_fair 35 = .ok (.iload_n 1, 1) := by decide +kernel
theorem dX11_fair_36 : decode cX11_fair 36 = .ok (.bipush 7, 2) := by decide +kernel
theorem dX11_fair_38 : decode cX11_fair 38 = .ok (.aload_n 0, 1) := by decide +kernel
theorem dX11_fair_39 : decode cX11_fair 39 = .ok (.getfield 60, 3) := by decide +kernel
theorem dX11_fair_42 : decode cX11_fair 42 = .ok (.imul, 1) := by decide +kernel
theorem dX11_fair_43 : decode cX11_fair 43 = .ok (.if_icmp .ge 21, 3) := by decide +kernel
theorem dX11_fair_46 : decode cX11_fair 46 = .ok (.aload_n 0, 1) := by decide +kernel
theorem dX11_fair_47 : decode cX11_fair 47 = .ok (.getfield 13, 3) := by decide +kernel
theorem dX11_fair_50 : decode cX11_fair 50 = .ok (.iload_n 1, 1) := by decide +kernel
theorem dX11_fair_51 : decode cX11_fair 51 = .ok (.aload_n 0, 1) := by decide +kernel
theorem dX11_fair_52 : decode cX11_fair 52 = .ok (.getfield 19, 3) := by decide +kernel
theorem dX11_fair_55 : decode cX11_fair 55 = .ok (.iload_n 1, 1) := by decide +kernel
theorem dX11_fair_56 : decode cX11_fair 56 = .ok (.iaload, 1) := by decide +kernel
theorem dX11_fair_57 : decode cX11_fair 57 = .ok (.iastore, 1) := by decide +kernel
theorem dX11_fair_58 : decode cX11_fair 58 = .ok (.iinc 1 1, 3) := by decide +kernel
theorem dX11_fair_61 : decode cX11_fair 61 = .ok (.goto (-26), 3) := by decide +kernel
theorem dX11_fair_64 : decode cX11_fair 64 = .ok (.iconst 0, 1) := by decide +kernel
theorem dX11_fair_65 : decode cX11_fair 65 = .ok (.istore_n 1, 1) := by decide +kernel
theorem dX11_fair_66 : decode cX11_fair 66 = .ok (.iload_n 1, 1) := by decide +kernel
theorem dX11_fair_67 : decode cX11_fair 67 = .ok (.iconst 4, 1) := by decide +kernel
theorem dX11_fair_68 : decode cX11_fair 68 = .ok (.aload_n 0, 1) := by decide +kernel
theorem dX11_fair_69 : decode cX11_fair 69 = .ok (.getfield 67, 3) := by decide +kernel
theorem dX11_fair_72 : decode cX11_fair 72 = .ok (.imul, 1) := by decide +kernel
theorem dX11_fair_73 : decode cX11_fair 73 = .ok (.if_icmp .ge 21, 3) := by decide +kernel
theorem dX11_fair_76 : decode cX11_fair 76 = .ok (.aload_n 0, 1) := by decide +kernel
theorem dX11_fair_77 : decode cX11_fair 77 = .ok (.getfield 16, 3) := by decide +kernel
theorem dX11_fair_80 : decode cX11_fair 80 = .ok (.iload_n 1, 1) := by decide +kernel
theorem dX11_fair_81 : decode cX11_fair 81 = .ok (.aload_n 0, 1) := by decide +kernel
theorem dX11_fair_82 : decode cX11_fair 82 = .ok (.getfield 22, 3) := by decide +kernel
theorem dX11_fair_85 : decode cX11_fair 85 = .ok (.iload_n 1, 1) := by decide +kernel
theorem dX11_fair_86 : decode cX11_fair 86 = .ok (.iaload, 1) := by decide +kernel
theorem dX11_fair_87 : decode cX11_fair 87 = .ok (.iastore, 1) := by decide +kernel
theorem dX11_fair_88 : decode cX11_fair 88 = .ok (.iinc 1 1, 3) := by decide +kernel
theorem dX11_fair_91 : decode cX11_fair 91 = .ok (.goto (-25), 3) := by decide +kernel
theorem dX11_fair_94 : decode cX11_fair 94 = .ok (.iconst 0, 1) := by decide +kernel
theorem dX11_fair_95 : decode cX11_fair 95 = .ok (.istore_n 1, 1) := by decide +kernel
theorem dX11_fair_96 : decode cX11_fair 96 = .ok (.iload_n 1, 1) := by decide +kernel
theorem dX11_fair_97 : decode cX11_fair 97 = .ok (.bipush 21, 2) := by decide +kernel
theorem dX11_fair_99 : decode cX11_fair 99 = .ok (.if_icmp .ge 26, 3) := by decide +kernel
theorem dX11_fair_102 : decode cX11_fair 102 = .ok (.aload_n 0, 1) := by decide +kernel
theorem dX11_fair_103 : decode cX11_fair 103 = .ok (.getfield 25, 3) := by decide +kernel
theorem dX11_fair_106 : decode cX11_fair 106 = .ok (.iload_n 1, 1) := by decide +kernel
theorem dX11_fair_107 : decode cX11_fair 107 = .ok (.iload_n 1, 1) := by decide +kernel
theorem dX11_fair_108 : decode cX11_fair 108 = .ok (.iconst 5, 1) := by decide +kernel
theorem dX11_fair_109 : decode cX11_fair 109 = .ok (.if_icmp .ge 8, 3) := by decide +kernel
theorem dX11_fair_112 : decode cX11_fair 112 = .ok (.bipush (-9), 2) := by decide +kernel
theorem dX11_fair_114 : decode cX11_fair 114 = .ok (.goto 4, 3) := by decide +kernel
theorem dX11_fair_117 : decode cX11_fair 117 = .ok (.iconst 0, 1) := by decide +kernel
theorem dX11_fair_118 : decode cX11_fair 118 = .ok (.iastore, 1) := by decide +kernel
theorem dX11_fair_119 : decode cX11_fair 119 = .ok (.iinc 1 1, 3) := by decide +kernel
theorem dX11_fair_122 : decode cX11_fair 122 = .ok (.goto (-26), 3) := by decide +kernel
theorem dX11_fair_125 : decode cX11_fair 125 = .ok (.aload_n 0, 1) := by decide +kernel
theorem dX11_fair_126 : decode cX11_fair 126 = .ok (.iconst 0, 1) := by decide +kernel
theorem dX11_fair_127 : decode cX11_fair 127 = .ok (.putfield 100, 3) := by decide +kernel
theorem dX11_fair_130 : decode cX11_fair 130 = .ok (.aload_n 0, 1) := by decide +kernel
theorem dX11_fair_131 : decode cX11_fair 131 = .ok (.getfield 34, 3) := by decide +kernel
theorem dX11_fair_134 : decode cX11_fair 134 = .ok (.iconst 0, 1) := by decide +kernel
theorem dX11_fair_135 : decode cX11_fair 135 = .ok (.iconst 0, 1) := by decide +kernel
theorem dX11_fair_136 : decode cX11_fair 136 = .ok (.bastore, 1) := by decide +kernel
theorem dX11_fair_137 : decode cX11_fair 137 = .ok (.aload_n 0, 1) := by decide +kernel
theorem dX11_fair_138 : decode cX11_fair 138 = .ok (.getfield 34, 3) := by decide +kernel
theorem dX11_fair_141 : decode cX11_fair 141 = .ok (.iconst 1, 1) := by decide +kernel
theorem dX11_fair_142 : decode cX11_fair 142 = .ok (.iconst 0, 1) := by decide +kernel
theorem dX11_fair_143 : decode cX11_fair 143 = .ok (.bastore, 1) := by decide +kernel
theorem dX11_fair_144 : decode cX11_fair 144 = .ok (.bipush 10, 2) := by decide +kernel
theorem dX11_fair_146 : decode cX11_fair 146 = .ok (.aload_n 0, 1) := by decide +kernel
theorem dX11_fair_147 : decode cX11_fair 147 = .ok (.getfield 60, 3) := by decide +kernel
theorem dX11_fair_150 : decode cX11_fair 150 = .ok (.imul, 1) := by decide +kernel
theorem dX11_fair_151 : decode cX11_fair 151 = .ok (.aload_n 0, 1) := by decide +kernel
theorem dX11_fair_152 : decode cX11_fair 152 = .ok (.getfield 67, 3) := by decide +kernel
theorem dX11_fair_155 : decode cX11_fair 155 = .ok (.iadd, 1) := by decide +kernel
theorem dX11_fair_156 : decode cX11_fair 156 = .ok (.ireturn, 1) := by decide +kernel
theorem dX11_shows_0 : decode cX11_shows 0 = .ok (.aload_n 0, 1) := by decide +kernel
theorem dX11_shows_1 : decode cX11_shows 1 = .ok (.getfield 16, 3) := by decide +kernel
theorem dX11_shows_4 : decode cX11_shows 4 = .ok (.iconst 4, 1) := by decide +kernel
theorem dX11_shows_5 : decode cX11_shows 5 = .ok (.iload_n 1, 1) := by decide +kernel
theorem dX11_shows_6 : decode cX11_shows 6 = .ok (.imul, 1) := by decide +kernel
theorem dX11_shows_7 : decode cX11_shows 7 = .ok (.iload_n 2, 1) := by decide +kernel
theorem dX11_shows_8 : decode cX11_shows 8 = .ok (.iadd, 1) := by decide +kernel
theorem dX11_shows_9 : decode cX11_shows 9 = .ok (.iaload, 1) := by decide +kernel
theorem dX11_shows_10 : decode cX11_shows 10 = .ok (.aload_n 0, 1) := by decide +kernel
theorem dX11_shows_11 : decode cX11_shows 11 = .ok (.getfield 25, 3) := by decide +kernel
theorem dX11_shows_14 : decode cX11_shows 14 = .ok (.iconst 5, 1) := by decide +kernel
theorem dX11_shows_15 : decode cX11_shows 15 = .ok (.iconst 3, 1) := by decide +kernel
theorem dX11_shows_16 : decode cX11_shows 16 = .ok (.iload_n 1, 1) := by decide +kernel
theorem dX11_shows_17 : decode cX11_shows 17 = .ok (.imul, 1) := by decide +kernel
theorem dX11_shows_18 : decode cX11_shows 18 = .ok (.iadd, 1) := by decide +kernel
theorem dX11_shows_19 : decode cX11_shows 19 = .ok (.iload_n 2, 1) := by decide +kernel
theorem dX11_shows_20 : decode cX11_shows 20 = .ok (.iadd, 1) := by decide +kernel
theorem dX11_shows_21 : decode cX11_shows 21 = .ok (.iaload, 1) := by decide +kernel
theorem dX11_shows_22 : decode cX11_shows 22 = .ok (.iadd, 1) := by decide +kernel
theorem dX11_shows_23 : decode cX11_shows 23 = .ok (.aload_n 0, 1) := by decide +kernel
theorem dX11_shows_24 : decode cX11_shows 24 = .ok (.getfield 53, 3) := by decide +kernel
theorem dX11_shows_27 : decode cX11_shows 27 = .ok (.iconst 3, 1) := by decide +kernel
theorem dX11_shows_28 : decode cX11_shows 28 = .ok (.iload_n 1, 1) := by decide +kernel
theorem dX11_shows_29 : decode cX11_shows 29 = .ok (.imul, 1) := by decide +kernel
theorem dX11_shows_30 : decode cX11_shows 30 = .ok (.iload_n 2, 1) := by decide +kernel
theorem dX11_shows_31 : decode cX11_shows 31 = .ok (.iadd, 1) := by decide +kernel
theorem dX11_shows_32 : decode cX11_shows 32 = .ok (.iaload, 1) := by decide +kernel
theorem dX11_shows_33 : decode cX11_shows 33 = .ok (.iadd, 1) := by decide +kernel
theorem dX11_shows_34 : decode cX11_shows 34 = .ok (.istore_n 3, 1) := by decide +kernel
theorem dX11_shows_35 : decode cX11_shows 35 = .ok (.iload_n 3, 1) := by decide +kernel
theorem dX11_shows_36 : decode cX11_shows 36 = .ok (.bipush 9, 2) := by decide +kernel
theorem dX11_shows_38 : decode cX11_shows 38 = .ok (.if_icmp .le 8, 3) := by decide +kernel
theorem dX11_shows_41 : decode cX11_shows 41 = .ok (.bipush 9, 2) := by decide +kernel
theorem dX11_shows_43 : decode cX11_shows 43 = .ok (.goto 4, 3) := by decide +kernel
theorem dX11_shows_46 : decode cX11_shows 46 = .ok (.iload_n 3, 1) := by decide +kernel
theorem dX11_shows_47 : decode cX11_shows 47 = .ok (.ireturn, 1) := by decide +kernel
theorem dX11_worthOf_0 : decode cX11_worthOf 0 = .ok (.iconst 0, 1) := by decide +kernel
theorem dX11_worthOf_1 : decode cX11_worthOf 1 = .ok (.istore_n 3, 1) := by decide +kernel
theorem dX11_worthOf_2 : decode cX11_worthOf 2 = .ok (.iconst 0, 1) := by decide +kernel
theorem dX11_worthOf_3 : decode cX11_worthOf 3 = .ok (.istore 4, 2) := by decide +kernel
theorem dX11_worthOf_5 : decode cX11_worthOf 5 = .ok (.iload 4, 2) := by decide +kernel
theorem dX11_worthOf_7 : decode cX11_worthOf 7 = .ok (.iconst 3, 1) := by decide +kernel
theorem dX11_worthOf_8 : decode cX11_worthOf 8 = .ok (.if_icmp .ge 34, 3) := by decide +kernel
theorem dX11_worthOf_11 : decode cX11_worthOf 11 = .ok (.iload_n 3, 1) := by decide +kernel
theorem dX11_worthOf_12 : decode cX11_worthOf 12 = .ok (.aload_n 0, 1) := by decide +kernel
theorem dX11_worthOf_13 : decode cX11_worthOf 13 = .ok (.getfield 13, 3) := by decide +kernel
theorem dX11_worthOf_16 : decode cX11_worthOf 16 = .ok (.bipush 7, 2) := by decide +kernel
theorem dX11_worthOf_18 : decode cX11_worthOf 18 = .ok (.iload_n 1, 1) := by decide +kernel
theorem dX11_worthOf_19 : decode cX11_worthOf 19 = .ok (.imul, 1) := by decide +kernel
theorem dX11_worthOf_20 : decode cX11_worthOf 20 = .ok (.iconst 1, 1) := by decide +kernel
theorem dX11_worthOf_21 : decode cX11_worthOf 21 = .ok (.iadd, 1) := by decide +kernel
theorem dX11_worthOf_22 : decode cX11_worthOf 22 = .ok (.iload 4, 2) := by decide +kernel
theorem dX11_worthOf_24 : decode cX11_worthOf 24 = .ok (.iadd, 1) := by decide +kernel
theorem dX11_worthOf_25 : decode cX11_worthOf 25 = .ok (.iaload, 1) := by decide +kernel
theorem dX11_worthOf_26 : decode cX11_worthOf 26 = .ok (.aload_n 0, 1) := by decide +kernel
theorem dX11_worthOf_27 : decode cX11_worthOf 27 = .ok (.iload_n 2, 1) := by decide +kernel
theorem dX11_worthOf_28 : decode cX11_worthOf 28 = .ok (.iload 4, 2) := by decide +kernel
theorem dX11_worthOf_30 : decode cX11_worthOf 30 = .ok (.invokevirtual 103, 3) := by decide +kernel
theorem dX11_worthOf_33 : decode cX11_worthOf 33 = .ok (.imul, 1) := by decide +kernel
theorem dX11_worthOf_34 : decode cX11_worthOf 34 = .ok (.iadd, 1) := by decide +kernel
theorem dX11_worthOf_35 : decode cX11_worthOf 35 = .ok (.istore_n 3, 1) := by decide +kernel
theorem dX11_worthOf_36 : decode cX11_worthOf 36 = .ok (.iinc 4 1, 3) := by decide +kernel
theorem dX11_worthOf_39 : decode cX11_worthOf 39 = .ok (.goto (-34), 3) := by decide +kernel
theorem dX11_worthOf_42 : decode cX11_worthOf 42 = .ok (.iload_n 3, 1) := by decide +kernel
theorem dX11_worthOf_43 : decode cX11_worthOf 43 = .ok (.ireturn, 1) := by decide +kernel
theorem dX11_isEnough_0 : decode cX11_isEnough 0 = .ok (.aload_n 0, 1) := by decide +kernel
theorem dX11_isEnough_1 : decode cX11_isEnough 1 = .ok (.iload_n 1, 1) := by decide +kernel
theorem dX11_isEnough_2 : decode cX11_isEnough 2 = .ok (.iload_n 2, 1) := by decide +kernel
theorem dX11_isEnough_3 : decode cX11_isEnough 3 = .ok (.invokevirtual 106, 3) := by decide +kernel
theorem dX11_isEnough_6 : decode cX11_isEnough 6 = .ok (.aload_n 0, 1) := by decide +kernel
theorem dX11_isEnough_7 : decode cX11_isEnough 7 = .ok (.getfield 13, 3) := by decide +kernel
theorem dX11_isEnough_10 : decode cX11_isEnough 10 = .ok (.bipush 7, 2) := by decide +kernel
theorem dX11_isEnough_12 : decode cX11_isEnough 12 = .ok (.iload_n 1, 1) := by decide +kernel
theorem dX11_isEnough_13 : decode cX11_isEnough 13 = .ok (.imul, 1) := by decide +kernel
theorem dX11_isEnough_14 : decode cX11_isEnough 14 = .ok (.bipush 6, 2) := by decide +kernel
theorem dX11_isEnough_16 : decode cX11_isEnough 16 = .ok (.iadd, 1) := by decide +kernel
theorem dX11_isEnough_17 : decode cX11_isEnough 17 = .ok (.iaload, 1) := by decide +kernel
theorem dX11_isEnough_18 : decode cX11_isEnough 18 = .ok (.if_icmp .lt 7, 3) := by decide +kernel
theorem dX11_isEnough_21 : decode cX11_isEnough 21 = .ok (.iconst 1, 1) := by decide +kernel
theorem dX11_isEnough_22 : decode cX11_isEnough 22 = .ok (.goto 4, 3) := by decide +kernel
theorem dX11_isEnough_25 : decode cX11_isEnough 25 = .ok (.iconst 0, 1) := by decide +kernel
theorem dX11_isEnough_26 : decode cX11_isEnough 26 = .ok (.ireturn, 1) := by decide +kernel
theorem dX11_likesRider_0 : decode cX11_likesRider 0 = .ok (.aload_n 0, 1) := by decide +kernel
theorem dX11_likesRider_1 : decode cX11_likesRider 1 = .ok (.iload_n 1, 1) := by decide +kernel
theorem dX11_likesRider_2 : decode cX11_likesRider 2 = .ok (.iload_n 2, 1) := by decide +kernel
theorem dX11_likesRider_3 : decode cX11_likesRider 3 = .ok (.invokevirtual 106, 3) := by decide +kernel
theorem dX11_likesRider_6 : decode cX11_likesRider 6 = .ok (.aload_n 0, 1) := by decide +kernel
theorem dX11_likesRider_7 : decode cX11_likesRider 7 = .ok (.iload_n 1, 1) := by decide +kernel
theorem dX11_likesRider_8 : decode cX11_likesRider 8 = .ok (.iload_n 3, 1) := by decide +kernel
theorem dX11_likesRider_9 : decode cX11_likesRider 9 = .ok (.invokevirtual 106, 3) := by decide +kernel
theorem dX11_likesRider_12 : decode cX11_likesRider 12 = .ok (.isub, 1) := by decide +kernel
theorem dX11_likesRider_13 : decode cX11_likesRider 13 = .ok (.istore 4, 2) := by decide +kernel
theorem dX11_likesRider_15 : decode cX11_likesRider 15 = .ok (.iload 4, 2) := by decide +kernel
theorem dX11_likesRider_17 : decode cX11_likesRider 17 = .ok (.ifCond .gt 13, 3) := by decide +kernel
theorem dX11_likesRider_20 : decode cX11_likesRider 20 = .ok (.iload 4, 2) := by decide +kernel
theorem dX11_likesRider_22 : decode cX11_likesRider 22 = .ok (.ifCond .ne 12, 3) := by decide +kernel
theorem dX11_likesRider_25 : decode cX11_likesRider 25 = .ok (.iload_n 2, 1) := by decide +kernel
theorem dX11_likesRider_26 : decode cX11_likesRider 26 = .ok (.iload_n 3, 1) := by decide +kernel
theorem dX11_likesRider_27 : decode cX11_likesRider 27 = .ok (.if_icmp .ge 7, 3) := by decide +kernel
theorem dX11_likesRider_30 : decode cX11_likesRider 30 = .ok (.iconst 1, 1) := by decide +kernel
theorem dX11_likesRider_31 : decode cX11_likesRider 31 = .ok (.goto 4, 3) := by decide +kernel
theorem dX11_likesRider_34 : decode cX11_likesRider 34 = .ok (.iconst 0, 1) := by decide +kernel
theorem dX11_likesRider_35 : decode cX11_likesRider 35 = .ok (.ireturn, 1) := by decide +kernel
theorem dX11_likesHorse_0 : decode cX11_likesHorse 0 = .ok (.iload_n 3, 1) := by decide +kernel
theorem dX11_likesHorse_1 : decode cX11_likesHorse 1 = .ok (.bipush (-9), 2) := by decide +kernel
theorem dX11_likesHorse_3 : decode cX11_likesHorse 3 = .ok (.if_icmp .ne 5, 3) := by decide +kernel
theorem dX11_likesHorse_6 : decode cX11_likesHorse 6 = .ok (.iconst 1, 1) := by decide +kernel
theorem dX11_likesHorse_7 : decode cX11_likesHorse 7 = .ok (.ireturn, 1) := by decide +kernel
theorem dX11_likesHorse_8 : decode cX11_likesHorse 8 = .ok (.aload_n 0, 1) := by decide +kernel
theorem dX11_likesHorse_9 : decode cX11_likesHorse 9 = .ok (.getfield 16, 3) := by decide +kernel
theorem dX11_likesHorse_12 : decode cX11_likesHorse 12 = .ok (.iconst 4, 1) := by decide +kernel
theorem dX11_likesHorse_13 : decode cX11_likesHorse 13 = .ok (.iload_n 1, 1) := by decide +kernel
theorem dX11_likesHorse_14 : decode cX11_likesHorse 14 = .ok (.imul, 1) := by decide +kernel
theorem dX11_likesHorse_15 : decode cX11_likesHorse 15 = .ok (.iconst 3, 1) := by decide +kernel
theorem dX11_likesHorse_16 : decode cX11_likesHorse 16 = .ok (.iadd, 1) := by decide +kernel
theorem dX11_likesHorse_17 : decode cX11_likesHorse 17 = .ok (.iaload, 1) := by decide +kernel
theorem dX11_likesHorse_18 : decode cX11_likesHorse 18 = .ok (.istore 4, 2) := by decide +kernel
theorem dX11_likesHorse_20 : decode cX11_likesHorse 20 = .ok (.iload 4, 2) := by decide +kernel
theorem dX11_likesHorse_22 : decode cX11_likesHorse 22 = .ok (.ifCond .eq 9, 3) := by decide +kernel
theorem dX11_likesHorse_25 : decode cX11_likesHorse 25 = .ok (.iload 4, 2) := by decide +kernel
theorem dX11_likesHorse_27 : decode cX11_likesHorse 27 = .ok (.iconst 3, 1) := by decide +kernel
theorem dX11_likesHorse_28 : decode cX11_likesHorse 28 = .ok (.if_icmp .ne 7, 3) := by decide +kernel
theorem dX11_likesHorse_31 : decode cX11_likesHorse 31 = .ok (.iconst 4, 1) := by decide +kernel
theorem dX11_likesHorse_32 : decode cX11_likesHorse 32 = .ok (.goto 4, 3) := by decide +kernel
theorem dX11_likesHorse_35 : decode cX11_likesHorse 35 = .ok (.iconst 5, 1) := by decide +kernel
theorem dX11_likesHorse_36 : decode cX11_likesHorse 36 = .ok (.istore 5, 2) := by decide +kernel
theorem dX11_likesHorse_38 : decode cX11_likesHorse 38 = .ok (.aload_n 0, 1) := by decide +kernel
theorem dX11_likesHorse_39 : decode cX11_likesHorse 39 = .ok (.getfield 13, 3) := by decide +kernel
theorem dX11_likesHorse_42 : decode cX11_likesHorse 42 = .ok (.bipush 7, 2) := by decide +kernel
theorem dX11_likesHorse_44 : decode cX11_likesHorse 44 = .ok (.iload_n 2, 1) := by decide +kernel
theorem dX11_likesHorse_45 : decode cX11_likesHorse 45 = .ok (.imul, 1) := by decide +kernel
theorem dX11_likesHorse_46 : decode cX11_likesHorse 46 = .ok (.iload 5, 2) := by decide +kernel
theorem dX11_likesHorse_48 : decode cX11_likesHorse 48 = .ok (.iadd, 1) := by decide +kernel
theorem dX11_likesHorse_49 : decode cX11_likesHorse 49 = .ok (.iaload, 1) := by decide +kernel
theorem dX11_likesHorse_50 : decode cX11_likesHorse 50 = .ok (.aload_n 0, 1) := by decide +kernel
theorem dX11_likesHorse_51 : decode cX11_likesHorse 51 = .ok (.getfield 13, 3) := by decide +kernel
theorem dX11_likesHorse_54 : decode cX11_likesHorse 54 = .ok (.bipush 7, 2) := by decide +kernel
theorem dX11_likesHorse_56 : decode cX11_likesHorse 56 = .ok (.iload_n 3, 1) := by decide +kernel
theorem dX11_likesHorse_57 : decode cX11_likesHorse 57 = .ok (.imul, 1) := by decide +kernel
theorem dX11_likesHorse_58 : decode cX11_likesHorse 58 = .ok (.iload 5, 2) := by decide +kernel
theorem dX11_likesHorse_60 : decode cX11_likesHorse 60 = .ok (.iadd, 1) := by decide +kernel
theorem dX11_likesHorse_61 : decode cX11_likesHorse 61 = .ok (.iaload, 1) := by decide +kernel
theorem dX11_likesHorse_62 : decode cX11_likesHorse 62 = .ok (.isub, 1) := by decide +kernel
theorem dX11_likesHorse_63 : decode cX11_likesHorse 63 = .ok (.istore 6, 2) := by decide +kernel
theorem dX11_likesHorse_65 : decode cX11_likesHorse 65 = .ok (.iload 4, 2) := by decide +kernel
theorem dX11_likesHorse_67 : decode cX11_likesHorse 67 = .ok (.iconst 1, 1) := by decide +kernel
theorem dX11_likesHorse_68 : decode cX11_likesHorse 68 = .ok (.if_icmp .eq 9, 3) := by decide +kernel
theorem dX11_likesHorse_71 : decode cX11_likesHorse 71 = .ok (.iload 4, 2) := by decide +kernel
theorem dX11_likesHorse_73 : decode cX11_likesHorse 73 = .ok (.iconst 3, 1) := by decide +kernel
theorem dX11_likesHorse_74 : decode cX11_likesHorse 74 = .ok (.if_icmp .ne 9, 3) := by decide +kernel
theorem dX11_likesHorse_77 : decode cX11_likesHorse 77 = .ok (.iload 6, 2) := by decide +kernel
theorem dX11_likesHorse_79 : decode cX11_likesHorse 79 = .ok (.ineg, 1) := by decide +kernel
theorem dX11_likesHorse_80 : decode cX11_likesHorse 80 = .ok (.goto 5, 3) := by decide +kernel
theorem dX11_likesHorse_83 : decode cX11_likesHorse 83 = .ok (.iload 6, 2) := by decide +kernel
theorem dX11_likesHorse_85 : decode cX11_likesHorse 85 = .ok (.istore 6, 2) := by decide +kernel
theorem dX11_likesHorse_87 : decode cX11_likesHorse 87 = .ok (.iload 6, 2) := by decide +kernel
theorem dX11_likesHorse_89 : decode cX11_likesHorse 89 = .ok (.ifCond .gt 13, 3) := by decide +kernel
theorem dX11_likesHorse_92 : decode cX11_likesHorse 92 = .ok (.iload 6, 2) := by decide +kernel
theorem dX11_likesHorse_94 : decode cX11_likesHorse 94 = .ok (.ifCond .ne 12, 3) := by decide +kernel
theorem dX11_likesHorse_97 : decode cX11_likesHorse 97 = .ok (.iload_n 2, 1) := by decide +kernel
theorem dX11_likesHorse_98 : decode cX11_likesHorse 98 = .ok (.iload_n 3, 1) := by decide +kernel
theorem dX11_likesHorse_99 : decode cX11_likesHorse 99 = .ok (.if_icmp .ge 7, 3) := by decide +kernel
theorem dX11_likesHorse_102 : decode cX11_likesHorse 102 = .ok (.iconst 1, 1) := by decide +kernel
theorem dX11_likesHorse_103 : decode cX11_likesHorse 103 = .ok (.goto 4, 3) := by decide +kernel
theorem dX11_likesHorse_106 : decode cX11_likesHorse 106 = .ok (.iconst 0, 1) := by decide +kernel
theorem dX11_likesHorse_107 : decode cX11_likesHorse 107 = .ok (.ireturn, 1) := by decide +kernel
theorem dX11_keeps_0 : decode cX11_keeps 0 = .ok (.iconst 0, 1) := by decide +kernel
theorem dX11_keeps_1 : decode cX11_keeps 1 = .ok (.istore_n 3, 1) := by decide +kernel
theorem dX11_keeps_2 : decode cX11_keeps 2 = .ok (.iconst 0, 1) := by decide +kernel
theorem dX11_keeps_3 : decode cX11_keeps 3 = .ok (.istore 4, 2) := by decide +kernel
theorem dX11_keeps_5 : decode cX11_keeps 5 = .ok (.iload 4, 2) := by decide +kernel
theorem dX11_keeps_7 : decode cX11_keeps 7 = .ok (.aload_n 0, 1) := by decide +kernel
theorem dX11_keeps_8 : decode cX11_keeps 8 = .ok (.getfield 67, 3) := by decide +kernel
theorem dX11_keeps_11 : decode cX11_keeps 11 = .ok (.if_icmp .ge 28, 3) := by decide +kernel
theorem dX11_keeps_14 : decode cX11_keeps 14 = .ok (.iload_n 3, 1) := by decide +kernel
theorem dX11_keeps_15 : decode cX11_keeps 15 = .ok (.aload_n 1, 1) := by decide +kernel
theorem dX11_keeps_16 : decode cX11_keeps 16 = .ok (.iload 4, 2) := by decide +kernel
theorem dX11_keeps_18 : decode cX11_keeps 18 = .ok (.iaload, 1) := by decide +kernel
theorem dX11_keeps_19 : decode cX11_keeps 19 = .ok (.iload_n 2, 1) := by decide +kernel
theorem dX11_keeps_20 : decode cX11_keeps 20 = .ok (.if_icmp .ne 10, 3) := by decide +kernel
theorem dX11_keeps_23 : decode cX11_keeps 23 = .ok (.iconst 1, 1) := by decide +kernel
theorem dX11_keeps_24 : decode cX11_keeps 24 = .ok (.iload 4, 2) := by decide +kernel
theorem dX11_keeps_26 : decode cX11_keeps 26 = .ok (.ishl, 1) := by decide +kernel
theorem dX11_keeps_27 : decode cX11_keeps 27 = .ok (.goto 4, 3) := by decide +kernel
theorem dX11_keeps_30 : decode cX11_keeps 30 = .ok (.iconst 0, 1) := by decide +kernel
theorem dX11_keeps_31 : decode cX11_keeps 31 = .ok (.ior, 1) := by decide +kernel
theorem dX11_keeps_32 : decode cX11_keeps 32 = .ok (.istore_n 3, 1) := by decide +kernel
theorem dX11_keeps_33 : decode cX11_keeps 33 = .ok (.iinc 4 1, 3) := by decide +kernel
theorem dX11_keeps_36 : decode cX11_keeps 36 = .ok (.goto (-31), 3) := by decide +kernel
theorem dX11_keeps_39 : decode cX11_keeps 39 = .ok (.iload_n 3, 1) := by decide +kernel
theorem dX11_keeps_40 : decode cX11_keeps 40 = .ok (.ireturn, 1) := by decide +kernel
theorem dX11_isFull_0 : decode cX11_isFull 0 = .ok (.aload_n 0, 1) := by decide +kernel
theorem dX11_isFull_1 : decode cX11_isFull 1 = .ok (.aload_n 1, 1) := by decide +kernel
theorem dX11_isFull_2 : decode cX11_isFull 2 = .ok (.iload_n 2, 1) := by decide +kernel
theorem dX11_isFull_3 : decode cX11_isFull 3 = .ok (.invokevirtual 109, 3) := by decide +kernel
theorem dX11_isFull_6 : decode cX11_isFull 6 = .ok (.invokestatic 113, 3) := by decide +kernel
theorem dX11_isFull_9 : decode cX11_isFull 9 = .ok (.aload_n 0, 1) := by decide +kernel
theorem dX11_isFull_10 : decode cX11_isFull 10 = .ok (.getfield 13, 3) := by decide +kernel
theorem dX11_isFull_13 : decode cX11_isFull 13 = .ok (.bipush 7, 2) := by decide +kernel
theorem dX11_isFull_15 : decode cX11_isFull 15 = .ok (.iload_n 2, 1) := by decide +kernel
theorem dX11_isFull_16 : decode cX11_isFull 16 = .ok (.imul, 1) := by decide +kernel
theorem dX11_isFull_17 : decode cX11_isFull 17 = .ok (.iaload, 1) := by decide +kernel
theorem dX11_isFull_18 : decode cX11_isFull 18 = .ok (.if_icmp .lt 7, 3) := by decide +kernel
theorem dX11_isFull_21 : decode cX11_isFull 21 = .ok (.iconst 1, 1) := by decide +kernel
theorem dX11_isFull_22 : decode cX11_isFull 22 = .ok (.goto 4, 3) := by decide +kernel
theorem dX11_isFull_25 : decode cX11_isFull 25 = .ok (.iconst 0, 1) := by decide +kernel
theorem dX11_isFull_26 : decode cX11_isFull 26 = .ok (.ireturn, 1) := by decide +kernel
theorem dX11_leastOf_0 : decode cX11_leastOf 0 = .ok (.bipush (-9), 2) := by decide +kernel
theorem dX11_leastOf_2 : decode cX11_leastOf 2 = .ok (.istore_n 3, 1) := by decide +kernel
theorem dX11_leastOf_3 : decode cX11_leastOf 3 = .ok (.iconst 0, 1) := by decide +kernel
theorem dX11_leastOf_4 : decode cX11_leastOf 4 = .ok (.istore 4, 2) := by decide +kernel
theorem dX11_leastOf_6 : decode cX11_leastOf 6 = .ok (.iload 4, 2) := by decide +kernel
theorem dX11_leastOf_8 : decode cX11_leastOf 8 = .ok (.aload_n 0, 1) := by decide +kernel
theorem dX11_leastOf_9 : decode cX11_leastOf 9 = .ok (.getfield 67, 3) := by decide +kernel
theorem dX11_leastOf_12 : decode cX11_leastOf 12 = .ok (.if_icmp .ge 41, 3) := by decide +kernel
theorem dX11_leastOf_15 : decode cX11_leastOf 15 = .ok (.aload_n 1, 1) := by decide +kernel
theorem dX11_leastOf_16 : decode cX11_leastOf 16 = .ok (.iload 4, 2) := by decide +kernel
theorem dX11_leastOf_18 : decode cX11_leastOf 18 = .ok (.iaload, 1) := by decide +kernel
theorem dX11_leastOf_19 : decode cX11_leastOf 19 = .ok (.iload_n 2, 1) := by decide +kernel
theorem dX11_leastOf_20 : decode cX11_leastOf 20 = .ok (.if_icmp .ne 25, 3) := by decide +kernel
theorem dX11_leastOf_23 : decode cX11_leastOf 23 = .ok (.iload_n 3, 1) := by decide +kernel
theorem dX11_leastOf_24 : decode cX11_leastOf 24 = .ok (.bipush (-9), 2) := by decide +kernel
theorem dX11_leastOf_26 : decode cX11_leastOf 26 = .ok (.if_icmp .eq 14, 3) := by decide +kernel
theorem dX11_leastOf_29 : decode cX11_leastOf 29 = .ok (.aload_n 0, 1) := by decide +kernel
theorem dX11_leastOf_30 : decode cX11_leastOf 30 = .ok (.iload_n 2, 1) := by decide +kernel
theorem dX11_leastOf_31 : decode cX11_leastOf 31 = .ok (.iload_n 3, 1) := by decide +kernel
theorem dX11_leastOf_32 : decode cX11_leastOf 32 = .ok (.iload 4, 2) := by decide +kernel
theorem dX11_leastOf_34 : decode cX11_leastOf 34 = .ok (.invokevirtual 117, 3) := by decide +kernel
theorem dX11_leastOf_37 : decode cX11_leastOf 37 = .ok (.ifCond .eq 8, 3) := by decide +kernel
theorem dX11_leastOf_40 : decode cX11_leastOf 40 = .ok (.iload 4, 2) := by decide +kernel
theorem dX11_leastOf_42 : decode cX11_leastOf 42 = .ok (.goto 4, 3) := by decide +kernel
theorem dX11_leastOf_45 : decode cX11_leastOf 45 = .ok (.iload_n 3, 1) := by decide +kernel
theorem dX11_leastOf_46 : decode cX11_leastOf 46 = .ok (.istore_n 3, 1) := by decide +kernel
theorem dX11_leastOf_47 : decode cX11_leastOf 47 = .ok (.iinc 4 1, 3) := by decide +kernel
theorem dX11_leastOf_50 : decode cX11_leastOf 50 = .ok (.goto (-44), 3) := by decide +kernel
theorem dX11_leastOf_53 : decode cX11_leastOf 53 = .ok (.iload_n 3, 1) := by decide +kernel
theorem dX11_leastOf_54 : decode cX11_leastOf 54 = .ok (.ireturn, 1) := by decide +kernel
theorem dX11_bolt_0 : decode cX11_bolt 0 = .ok (.aload_n 1, 1) := by decide +kernel
theorem dX11_bolt_1 : decode cX11_bolt 1 = .ok (.iload_n 2, 1) := by decide +kernel
theorem dX11_bolt_2 : decode cX11_bolt 2 = .ok (.iaload, 1) := by decide +kernel
theorem dX11_bolt_3 : decode cX11_bolt 3 = .ok (.iload_n 3, 1) := by decide +kernel
theorem dX11_bolt_4 : decode cX11_bolt 4 = .ok (.if_icmp .eq 24, 3) := by decide +kernel
theorem dX11_bolt_7 : decode cX11_bolt 7 = .ok (.aload_n 0, 1) := by decide +kernel
theorem dX11_bolt_8 : decode cX11_bolt 8 = .ok (.iload_n 3, 1) := by decide +kernel
theorem dX11_bolt_9 : decode cX11_bolt 9 = .ok (.iload_n 2, 1) := by decide +kernel
theorem dX11_bolt_10 : decode cX11_bolt 10 = .ok (.invokevirtual 121, 3) := by decide +kernel
theorem dX11_bolt_13 : decode cX11_bolt 13 = .ok (.ifCond .eq 15, 3) := by decide +kernel
theorem dX11_bolt_16 : decode cX11_bolt 16 = .ok (.aload_n 0, 1) := by decide +kernel
theorem dX11_bolt_17 : decode cX11_bolt 17 = .ok (.iload_n 2, 1) := by decide +kernel
theorem dX11_bolt_18 : decode cX11_bolt 18 = .ok (.iload_n 3, 1) := by decide +kernel
theorem dX11_bolt_19 : decode cX11_bolt 19 = .ok (.aload_n 1, 1) := by decide +kernel
theorem dX11_bolt_20 : decode cX11_bolt 20 = .ok (.iload_n 2, 1) := by decide +kernel
theorem dX11_bolt_21 : decode cX11_bolt 21 = .ok (.iaload, 1) := by decide +kernel
theorem dX11_bolt_22 : decode cX11_bolt 22 = .ok (.invokevirtual 125, 3) := by decide +kernel
theorem dX11_bolt_25 : decode cX11_bolt 25 = .ok (.ifCond .ne 5, 3) := by decide +kernel
theorem dX11_bolt_28 : decode cX11_bolt 28 = .ok (.iconst 0, 1) := by decide +kernel
theorem dX11_bolt_29 : decode cX11_bolt 29 = .ok (.ireturn, 1) := by decide +kernel
theorem dX11_bolt_30 : decode cX11_bolt 30 = .ok (.aload_n 0, 1) := by decide +kernel
theorem dX11_bolt_31 : decode cX11_bolt 31 = .ok (.aload_n 1, 1) := by decide +kernel
theorem dX11_bolt_32 : decode cX11_bolt 32 = .ok (.iload_n 3, 1) := by decide +kernel
theorem dX11_bolt_33 : decode cX11_bolt 33 = .ok (.invokevirtual 128, 3) := by decide +kernel
theorem dX11_bolt_36 : decode cX11_bolt 36 = .ok (.ifCond .eq 18, 3) := by decide +kernel
theorem dX11_bolt_39 : decode cX11_bolt 39 = .ok (.aload_n 0, 1) := by decide +kernel
theorem dX11_bolt_40 : decode cX11_bolt 40 = .ok (.iload_n 3, 1) := by decide +kernel
theorem dX11_bolt_41 : decode cX11_bolt 41 = .ok (.iload_n 2, 1) := by decide +kernel
theorem dX11_bolt_42 : decode cX11_bolt 42 = .ok (.aload_n 0, 1) := by decide +kernel
theorem dX11_bolt_43 : decode cX11_bolt 43 = .ok (.aload_n 1, 1) := by decide +kernel
theorem dX11_bolt_44 : decode cX11_bolt 44 = .ok (.iload_n 3, 1) := by decide +kernel
theorem dX11_bolt_45 : decode cX11_bolt 45 = .ok (.invokevirtual 132, 3) := by decide +kernel
theorem dX11_bolt_48 : decode cX11_bolt 48 = .ok (.invokevirtual 117, 3) := by decide +kernel
theorem dX11_bolt_51 : decode cX11_bolt 51 = .ok (.ifCond .eq 7, 3) := by decide +kernel
theorem dX11_bolt_54 : decode cX11_bolt 54 = .ok (.iconst 1, 1) := by decide +kernel
theorem dX11_bolt_55 : decode cX11_bolt 55 = .ok (.goto 4, 3) := by decide +kernel
theorem dX11_bolt_58 : decode cX11_bolt 58 = .ok (.iconst 0, 1) := by decide +kernel
theorem dX11_bolt_59 : decode cX11_bolt 59 = .ok (.ireturn, 1) := by decide +kernel
theorem dX11_boltsOf_0 : decode cX11_boltsOf 0 = .ok (.iconst 0, 1) := by decide +kernel
theorem dX11_boltsOf_1 : decode cX11_boltsOf 1 = .ok (.istore_n 2, 1) := by decide +kernel
theorem dX11_boltsOf_2 : decode cX11_boltsOf 2 = .ok (.iconst 0, 1) := by decide +kernel
theorem dX11_boltsOf_3 : decode cX11_boltsOf 3 = .ok (.istore_n 3, 1) := by decide +kernel
theorem dX11_boltsOf_4 : decode cX11_boltsOf 4 = .ok (.iload_n 3, 1) := by decide +kernel
theorem dX11_boltsOf_5 : decode cX11_boltsOf 5 = .ok (.aload_n 0, 1) := by decide +kernel
theorem dX11_boltsOf_6 : decode cX11_boltsOf 6 = .ok (.getfield 67, 3) := by decide +kernel
theorem dX11_boltsOf_9 : decode cX11_boltsOf 9 = .ok (.if_icmp .ge 46, 3) := by decide +kernel
theorem dX11_boltsOf_12 : decode cX11_boltsOf 12 = .ok (.iconst 0, 1) := by decide +kernel
theorem dX11_boltsOf_13 : decode cX11_boltsOf 13 = .ok (.istore 4, 2) := by decide +kernel
theorem dX11_boltsOf_15 : decode cX11_boltsOf 15 = .ok (.iload 4, 2) := by decide +kernel
theorem dX11_boltsOf_17 : decode cX11_boltsOf 17 = .ok (.aload_n 0, 1) := by decide +kernel
theorem dX11_boltsOf_18 : decode cX11_boltsOf 18 = .ok (.getfield 60, 3) := by decide +kernel
theorem dX11_boltsOf_21 : decode cX11_boltsOf 21 = .ok (.if_icmp .ge 28, 3) := by decide +kernel
theorem dX11_boltsOf_24 : decode cX11_boltsOf 24 = .ok (.iload_n 2, 1) := by decide +kernel
theorem dX11_boltsOf_25 : decode cX11_boltsOf 25 = .ok (.aload_n 0, 1) := by decide +kernel
theorem dX11_boltsOf_26 : decode cX11_boltsOf 26 = .ok (.aload_n 1, 1) := by decide +kernel
theorem dX11_boltsOf_27 : decode cX11_boltsOf 27 = .ok (.iload_n 3, 1) := by decide +kernel
theorem dX11_boltsOf_28 : decode cX11_boltsOf 28 = .ok (.iload 4, 2) := by decide +kernel
theorem dX11_boltsOf_30 : decode cX11_boltsOf 30 = .ok (.invokevirtual 135, 3) := by decide +kernel
theorem dX11_boltsOf_33 : decode cX11_boltsOf 33 = .ok (.ifCond .eq 7, 3) := by decide +kernel
theorem dX11_boltsOf_36 : decode cX11_boltsOf 36 = .ok (.iconst 1, 1) := by decide +kernel
theorem dX11_boltsOf_37 : decode cX11_boltsOf 37 = .ok (.goto 4, 3) := by decide +kernel
theorem dX11_boltsOf_40 : decode cX11_boltsOf 40 = .ok (.iconst 0, 1) := by decide +kernel
theorem dX11_boltsOf_41 : decode cX11_boltsOf 41 = .ok (.iadd, 1) := by decide +kernel
theorem dX11_boltsOf_42 : decode cX11_boltsOf 42 = .ok (.istore_n 2, 1) := by decide +kernel
theorem dX11_boltsOf_43 : decode cX11_boltsOf 43 = .ok (.iinc 4 1, 3) := by decide +kernel
theorem dX11_boltsOf_46 : decode cX11_boltsOf 46 = .ok (.goto (-31), 3) := by decide +kernel
theorem dX11_boltsOf_49 : decode cX11_boltsOf 49 = .ok (.iinc 3 1, 3) := by decide +kernel
theorem dX11_boltsOf_52 : decode cX11_boltsOf 52 = .ok (.goto (-48), 3) := by decide +kernel
theorem dX11_boltsOf_55 : decode cX11_boltsOf 55 = .ok (.iload_n 2, 1) := by decide +kernel
theorem dX11_boltsOf_56 : decode cX11_boltsOf 56 = .ok (.ireturn, 1) := by decide +kernel
theorem dX11_takenOf_0 : decode cX11_takenOf 0 = .ok (.iconst 0, 1) := by decide +kernel
theorem dX11_takenOf_1 : decode cX11_takenOf 1 = .ok (.istore_n 2, 1) := by decide +kernel
theorem dX11_takenOf_2 : decode cX11_takenOf 2 = .ok (.iconst 0, 1) := by decide +kernel
theorem dX11_takenOf_3 : decode cX11_takenOf 3 = .ok (.istore_n 3, 1) := by decide +kernel
theorem dX11_takenOf_4 : decode cX11_takenOf 4 = .ok (.iload_n 3, 1) := by decide +kernel
theorem dX11_takenOf_5 : decode cX11_takenOf 5 = .ok (.aload_n 0, 1) := by decide +kernel
theorem dX11_takenOf_6 : decode cX11_takenOf 6 = .ok (.getfield 67, 3) := by decide +kernel
theorem dX11_takenOf_9 : decode cX11_takenOf 9 = .ok (.if_icmp .ge 27, 3) := by decide +kernel
theorem dX11_takenOf_12 : decode cX11_takenOf 12 = .ok (.iload_n 2, 1) := by decide +kernel
theorem dX11_takenOf_13 : decode cX11_takenOf 13 = .ok (.aload_n 1, 1) := by decide +kernel
theorem dX11_takenOf_14 : decode cX11_takenOf 14 = .ok (.iload_n 3, 1) := by decide +kernel
theorem dX11_takenOf_15 : decode cX11_takenOf 15 = .ok (.iaload, 1) := by decide +kernel
theorem dX11_takenOf_16 : decode cX11_takenOf 16 = .ok (.bipush (-9), 2) := by decide +kernel
theorem dX11_takenOf_18 : decode cX11_takenOf 18 = .ok (.if_icmp .ne 7, 3) := by decide +kernel
theorem dX11_takenOf_21 : decode cX11_takenOf 21 = .ok (.iconst 0, 1) := by decide +kernel
theorem dX11_takenOf_22 : decode cX11_takenOf 22 = .ok (.goto 6, 3) := by decide +kernel
theorem dX11_takenOf_25 : decode cX11_takenOf 25 = .ok (.iconst 1, 1) := by decide +kernel
theorem dX11_takenOf_26 : decode cX11_takenOf 26 = .ok (.iload_n 3, 1) := by decide +kernel
theorem dX11_takenOf_27 : decode cX11_takenOf 27 = .ok (.ishl, 1) := by decide +kernel
theorem dX11_takenOf_28 : decode cX11_takenOf 28 = .ok (.ior, 1) := by decide +kernel
theorem dX11_takenOf_29 : decode cX11_takenOf 29 = .ok (.istore_n 2, 1) := by decide +kernel
theorem dX11_takenOf_30 : decode cX11_takenOf 30 = .ok (.iinc 3 1, 3) := by decide +kernel
theorem dX11_takenOf_33 : decode cX11_takenOf 33 = .ok (.goto (-29), 3) := by decide +kernel
theorem dX11_takenOf_36 : decode cX11_takenOf 36 = .ok (.iload_n 2, 1) := by decide +kernel
theorem dX11_takenOf_37 : decode cX11_takenOf 37 = .ok (.ireturn, 1) := by decide +kernel
theorem dX11_about_0 : decode cX11_about 0 = .ok (.aload_n 0, 1) := by decide +kernel
theorem dX11_about_1 : decode cX11_about 1 = .ok (.iconst 0, 1) := by decide +kernel
theorem dX11_about_2 : decode cX11_about 2 = .ok (.putfield 56, 3) := by decide +kernel
theorem dX11_about_5 : decode cX11_about 5 = .ok (.iload_n 1, 1) := by decide +kernel
theorem dX11_about_6 : decode cX11_about 6 = .ok (.tableswitch 97 0 7 #[46, 51, 56, 65, 73, 78, 83, 88], 46) := by decide +kernel
theorem dX11_about_52 : decode cX11_about 52 = .ok (.aload_n 0, 1) := by decide +kernel
theorem dX11_about_53 : decode cX11_about 53 = .ok (.getfield 60, 3) := by decide +kernel
theorem dX11_about_56 : decode cX11_about 56 = .ok (.ireturn, 1) := by decide +kernel
theorem dX11_about_57 : decode cX11_about 57 = .ok (.aload_n 0, 1) := by decide +kernel
theorem dX11_about_58 : decode cX11_about 58 = .ok (.getfield 67, 3) := by decide +kernel
theorem dX11_about_61 : decode cX11_about 61 = .ok (.ireturn, 1) := by decide +kernel
theorem dX11_about_62 : decode cX11_about 62 = .ok (.aload_n 0, 1) := by decide +kernel
theorem dX11_about_63 : decode cX11_about 63 = .ok (.aload_n 0, 1) := by decide +kernel
theorem dX11_about_64 : decode cX11_about 64 = .ok (.getfield 25, 3) := by decide +kernel
theorem dX11_about_67 : decode cX11_about 67 = .ok (.invokevirtual 139, 3) := by decide +kernel
theorem dX11_about_70 : decode cX11_about 70 = .ok (.ireturn, 1) := by decide +kernel
theorem dX11_about_71 : decode cX11_about 71 = .ok (.aload_n 0, 1) := by decide +kernel
theorem dX11_about_72 : decode cX11_about 72 = .ok (.getfield 25, 3) := by decide +kernel
theorem dX11_about_75 : decode cX11_about 75 = .ok (.bipush 20, 2) := by decide +kernel
theorem dX11_about_77 : decode cX11_about 77 = .ok (.iaload, 1) := by decide +kernel
theorem dX11_about_78 : decode cX11_about 78 = .ok (.ireturn, 1) := by decide +kernel
theorem dX11_about_79 : decode cX11_about 79 = .ok (.aload_n 0, 1) := by decide +kernel
theorem dX11_about_80 : decode cX11_about 80 = .ok (.getfield 100, 3) := by decide +kernel
theorem dX11_about_83 : decode cX11_about 83 = .ok (.ireturn, 1) := by decide +kernel
theorem dX11_about_84 : decode cX11_about 84 = .ok (.aload_n 0, 1) := by decide +kernel
theorem dX11_about_85 : decode cX11_about 85 = .ok (.getfield 143, 3) := by decide +kernel
theorem dX11_about_88 : decode cX11_about 88 = .ok (.ireturn, 1) := by decide +kernel
theorem dX11_about_89 : decode cX11_about 89 = .ok (.aload_n 0, 1) := by decide +kernel
theorem dX11_about_90 : decode cX11_about 90 = .ok (.getfield 72, 3) := by decide +kernel
theorem dX11_about_93 : decode cX11_about 93 = .ok (.ireturn, 1) := by decide +kernel
theorem dX11_about_94 : decode cX11_about 94 = .ok (.aload_n 0, 1) := by decide +kernel
theorem dX11_about_95 : decode cX11_about 95 = .ok (.aload_n 0, 1) := by decide +kernel
theorem dX11_about_96 : decode cX11_about 96 = .ok (.getfield 25, 3) := by decide +kernel
theorem dX11_about_99 : decode cX11_about 99 = .ok (.invokevirtual 146, 3) := by decide +kernel
theorem dX11_about_102 : decode cX11_about 102 = .ok (.ireturn, 1) := by decide +kernel
theorem dX11_about_103 : decode cX11_about 103 = .ok (.bipush (-2), 2) := by decide +kernel
theorem dX11_about_105 : decode cX11_about 105 = .ok (.ireturn, 1) := by decide +kernel
theorem dX11_horse_0 : decode cX11_horse 0 = .ok (.aload_n 0, 1) := by decide +kernel
theorem dX11_horse_1 : decode cX11_horse 1 = .ok (.iconst 0, 1) := by decide +kernel
theorem dX11_horse_2 : decode cX11_horse 2 = .ok (.putfield 56, 3) := by decide +kernel
theorem dX11_horse_5 : decode cX11_horse 5 = .ok (.aload_n 0, 1) := by decide +kernel
theorem dX11_horse_6 : decode cX11_horse 6 = .ok (.iload_n 1, 1) := by decide +kernel
theorem dX11_horse_7 : decode cX11_horse 7 = .ok (.invokevirtual 149, 3) := by decide +kernel
theorem dX11_horse_10 : decode cX11_horse 10 = .ok (.ifCond .eq 5, 3) := by decide +kernel
theorem dX11_horse_13 : decode cX11_horse 13 = .ok (.iconst (-1), 1) := by decide +kernel
theorem dX11_horse_14 : decode cX11_horse 14 = .ok (.ireturn, 1) := by decide +kernel
theorem dX11_horse_15 : decode cX11_horse 15 = .ok (.bipush 7, 2) := by decide +kernel
theorem dX11_horse_17 : decode cX11_horse 17 = .ok (.iload_n 1, 1) := by decide +kernel
theorem dX11_horse_18 : decode cX11_horse 18 = .ok (.imul, 1) := by decide +kernel
theorem dX11_horse_19 : decode cX11_horse 19 = .ok (.istore_n 3, 1) := by decide +kernel
theorem dX11_horse_20 : decode cX11_horse 20 = .ok (.iload_n 2, 1) := by decide +kernel
theorem dX11_horse_21 : decode cX11_horse 21 = .ok (.tableswitch 117 0 5 #[39, 46, 79, 88, 97, 107], 39) := by decide +kernel
theorem dX11_horse_60 : decode cX11_horse 60 = .ok (.aload_n 0, 1) := by decide +kernel
theorem dX11_horse_61 : decode cX11_horse 61 = .ok (.getfield 13, 3) := by decide +kernel
theorem dX11_horse_64 : decode cX11_horse 64 = .ok (.iload_n 3, 1) := by decide +kernel
theorem dX11_horse_65 : decode cX11_horse 65 = .ok (.iaload, 1) := by decide +kernel
theorem dX11_horse_66 : decode cX11_horse 66 = .ok (.ireturn, 1) := by decide +kernel
theorem dX11_horse_67 : decode cX11_horse 67 = .ok (.bipush 100, 2) := by decide +kernel
theorem dX11_horse_69 : decode cX11_horse 69 = .ok (.aload_n 0, 1) := by decide +kernel
theorem dX11_horse_70 : decode cX11_horse 70 = .ok (.getfield 13, 3) := by decide +kernel
theorem dX11_horse_73 : decode cX11_horse 73 = .ok (.iload_n 3, 1) := by decide +kernel
theorem dX11_horse_74 : decode cX11_horse 74 = .ok (.iconst 1, 1) := by decide +kernel
theorem dX11_horse_75 : decode cX11_horse 75 = .ok (.iadd, 1) := by decide +kernel
theorem dX11_horse_76 : decode cX11_horse 76 = .ok (.iaload, 1) := by decide +kernel
theorem dX11_horse_77 : decode cX11_horse 77 = .ok (.imul, 1) := by decide +kernel
theorem dX11_horse_78 : decode cX11_horse 78 = .ok (.bipush 10, 2) := by decide +kernel
theorem dX11_horse_80 : decode cX11_horse 80 = .ok (.aload_n 0, 1) := by decide +kernel
theorem dX11_horse_81 : decode cX11_horse 81 = .ok (.getfield 13, 3) := by decide +kernel
theorem dX11_horse_84 : decode cX11_horse 84 = .ok (.iload_n 3, 1) := by decide +kernel
theorem dX11_horse_85 : decode cX11_horse 85 = .ok (.iconst 2, 1) := by decide +kernel
theorem dX11_horse_86 : decode cX11_horse 86 = .ok (.iadd, 1) := by decide +kernel
theorem dX11_horse_87 : decode cX11_horse 87 = .ok (.iaload, 1) := by decide +kernel
theorem dX11_horse_88 : decode cX11_horse 88 = .ok (.imul, 1) := by decide +kernel
theorem dX11_horse_89 : decode cX11_horse 89 = .ok (.iadd, 1) := by decide +kernel
theorem dX11_horse_90 : decode cX11_horse 90 = .ok (.aload_n 0, 1) := by decide +kernel
theorem dX11_horse_91 : decode cX11_horse 91 = .ok (.getfield 13, 3) := by decide +kernel
theorem dX11_horse_94 : decode cX11_horse 94 = .ok (.iload_n 3, 1) := by decide +kernel
theorem dX11_horse_95 : decode cX11_horse 95 = .ok (.iconst 3, 1) := by decide +kernel
theorem dX11_horse_96 : decode cX11_horse 96 = .ok (.iadd, 1) := by decide +kernel
theorem dX11_horse_97 : decode cX11_horse 97 = .ok (.iaload, 1) := by decide +kernel
theorem dX11_horse_98 : decode cX11_horse 98 = .ok (.iadd, 1) := by decide +kernel
theorem dX11_horse_99 : decode cX11_horse 99 = .ok (.ireturn, 1) := by decide +kernel
theorem dX11_horse_100 : decode cX11_horse 100 = .ok (.aload_n 0, 1) := by decide +kernel
theorem dX11_horse_101 : decode cX11_horse 101 = .ok (.getfield 13, 3) := by decide +kernel
theorem dX11_horse_104 : decode cX11_horse 104 = .ok (.iload_n 3, 1) := by decide +kernel
theorem dX11_horse_105 : decode cX11_horse 105 = .ok (.iconst 4, 1) := by decide +kernel
theorem dX11_horse_106 : decode cX11_horse 106 = .ok (.iadd, 1) := by decide +kernel
theorem dX11_horse_107 : decode cX11_horse 107 = .ok (.iaload, 1) := by decide +kernel
theorem dX11_horse_108 : decode cX11_horse 108 = .ok (.ireturn, 1) := by decide +kernel
theorem dX11_horse_109 : decode cX11_horse 109 = .ok (.aload_n 0, 1) := by decide +kernel
theorem dX11_horse_110 : decode cX11_horse 110 = .ok (.getfield 13, 3) := by decide +kernel
theorem dX11_horse_113 : decode cX11_horse 113 = .ok (.iload_n 3, 1) := by decide +kernel
theorem dX11_horse_114 : decode cX11_horse 114 = .ok (.iconst 5, 1) := by decide +kernel
theorem dX11_horse_115 : decode cX11_horse 115 = .ok (.iadd, 1) := by decide +kernel
theorem dX11_horse_116 : decode cX11_horse 116 = .ok (.iaload, 1) := by decide +kernel
theorem dX11_horse_117 : decode cX11_horse 117 = .ok (.ireturn, 1) := by decide +kernel
theorem dX11_horse_118 : decode cX11_horse 118 = .ok (.aload_n 0, 1) := by decide +kernel
theorem dX11_horse_119 : decode cX11_horse 119 = .ok (.getfield 13, 3) := by decide +kernel
theorem dX11_horse_122 : decode cX11_horse 122 = .ok (.iload_n 3, 1) := by decide +kernel
theorem dX11_horse_123 : decode cX11_horse 123 = .ok (.bipush 6, 2) := by decide +kernel
theorem dX11_horse_125 : decode cX11_horse 125 = .ok (.iadd, 1) := by decide +kernel
theorem dX11_horse_126 : decode cX11_horse 126 = .ok (.iaload, 1) := by decide +kernel
theorem dX11_horse_127 : decode cX11_horse 127 = .ok (.ireturn, 1) := by decide +kernel
theorem dX11_horse_128 : decode cX11_horse 128 = .ok (.aload_n 0, 1) := by decide +kernel
theorem dX11_horse_129 : decode cX11_horse 129 = .ok (.aload_n 0, 1) := by decide +kernel
theorem dX11_horse_130 : decode cX11_horse 130 = .ok (.getfield 25, 3) := by decide +kernel
theorem dX11_horse_133 : decode cX11_horse 133 = .ok (.iload_n 1, 1) := by decide +kernel
theorem dX11_horse_134 : decode cX11_horse 134 = .ok (.invokevirtual 109, 3) := by decide +kernel
theorem dX11_horse_137 : decode cX11_horse 137 = .ok (.ireturn, 1) := by decide +kernel
theorem dX11_horse_138 : decode cX11_horse 138 = .ok (.bipush (-2), 2) := by decide +kernel
theorem dX11_horse_140 : decode cX11_horse 140 = .ok (.ireturn, 1) := by decide +kernel
theorem dX11_bestOf_0 : decode cX11_bestOf 0 = .ok (.bipush (-9), 2) := by decide +kernel
theorem dX11_bestOf_2 : decode cX11_bestOf 2 = .ok (.istore_n 2, 1) := by decide +kernel
theorem dX11_bestOf_3 : decode cX11_bestOf 3 = .ok (.iconst 0, 1) := by decide +kernel
theorem dX11_bestOf_4 : decode cX11_bestOf 4 = .ok (.istore_n 3, 1) := by decide +kernel
theorem dX11_bestOf_5 : decode cX11_bestOf 5 = .ok (.iload_n 3, 1) := by decide +kernel
theorem dX11_bestOf_6 : decode cX11_bestOf 6 = .ok (.aload_n 0, 1) := by decide +kernel
theorem dX11_bestOf_7 : decode cX11_bestOf 7 = .ok (.getfield 60, 3) := by decide +kernel
theorem dX11_bestOf_10 : decode cX11_bestOf 10 = .ok (.if_icmp .ge 25, 3) := by decide +kernel
theorem dX11_bestOf_13 : decode cX11_bestOf 13 = .ok (.aload_n 0, 1) := by decide +kernel
theorem dX11_bestOf_14 : decode cX11_bestOf 14 = .ok (.iload_n 1, 1) := by decide +kernel
theorem dX11_bestOf_15 : decode cX11_bestOf 15 = .ok (.iload_n 3, 1) := by decide +kernel
theorem dX11_bestOf_16 : decode cX11_bestOf 16 = .ok (.iload_n 2, 1) := by decide +kernel
theorem dX11_bestOf_17 : decode cX11_bestOf 17 = .ok (.invokevirtual 125, 3) := by decide +kernel
theorem dX11_bestOf_20 : decode cX11_bestOf 20 = .ok (.ifCond .eq 7, 3) := by decide +kernel
theorem dX11_bestOf_23 : decode cX11_bestOf 23 = .ok (.iload_n 3, 1) := by decide +kernel
theorem dX11_bestOf_24 : decode cX11_bestOf 24 = .ok (.goto 4, 3) := by decide +kernel
theorem dX11_bestOf_27 : decode cX11_bestOf 27 = .ok (.iload_n 2, 1) := by decide +kernel
theorem dX11_bestOf_28 : decode cX11_bestOf 28 = .ok (.istore_n 2, 1) := by decide +kernel
theorem dX11_bestOf_29 : decode cX11_bestOf 29 = .ok (.iinc 3 1, 3) := by decide +kernel
theorem dX11_bestOf_32 : decode cX11_bestOf 32 = .ok (.goto (-27), 3) := by decide +kernel
theorem dX11_bestOf_35 : decode cX11_bestOf 35 = .ok (.iload_n 2, 1) := by decide +kernel
theorem dX11_bestOf_36 : decode cX11_bestOf 36 = .ok (.ireturn, 1) := by decide +kernel
theorem dX11_rider_0 : decode cX11_rider 0 = .ok (.aload_n 0, 1) := by decide +kernel
theorem dX11_rider_1 : decode cX11_rider 1 = .ok (.iconst 0, 1) := by decide +kernel
theorem dX11_rider_2 : decode cX11_rider 2 = .ok (.putfield 56, 3) := by decide +kernel
theorem dX11_rider_5 : decode cX11_rider 5 = .ok (.aload_n 0, 1) := by decide +kernel
theorem dX11_rider_6 : decode cX11_rider 6 = .ok (.iload_n 1, 1) := by decide +kernel
theorem dX11_rider_7 : decode cX11_rider 7 = .ok (.invokevirtual 153, 3) := by decide +kernel
theorem dX11_rider_10 : decode cX11_rider 10 = .ok (.ifCond .eq 5, 3) := by decide +kernel
theorem dX11_rider_13 : decode cX11_rider 13 = .ok (.iconst (-1), 1) := by decide +kernel
theorem dX11_rider_14 : decode cX11_rider 14 = .ok (.ireturn, 1) := by decide +kernel
theorem dX11_rider_15 : decode cX11_rider 15 = .ok (.iload_n 2, 1) := by decide +kernel
theorem dX11_rider_16 : decode cX11_rider 16 = .ok (.tableswitch 124 0 4 #[36, 73, 100, 111, 118], 36) := by decide +kernel
theorem dX11_rider_52 : decode cX11_rider 52 = .ok (.bipush 100, 2) := by decide +kernel
theorem dX11_rider_54 : decode cX11_rider 54 = .ok (.aload_n 0, 1) := by decide +kernel
theorem dX11_rider_55 : decode cX11_rider 55 = .ok (.getfield 16, 3) := by decide +kernel
theorem dX11_rider_58 : decode cX11_rider 58 = .ok (.iconst 4, 1) := by decide +kernel
theorem dX11_rider_59 : decode cX11_rider 59 = .ok (.iload_n 1, 1) := by decide +kernel
theorem dX11_rider_60 : decode cX11_rider 60 = .ok (.imul, 1) := by decide +kernel
theorem dX11_rider_61 : decode cX11_rider 61 = .ok (.iaload, 1) := by decide +kernel
theorem dX11_rider_62 : decode cX11_rider 62 = .ok (.imul, 1) := by decide +kernel
theorem dX11_rider_63 : decode cX11_rider 63 = .ok (.bipush 10, 2) := by decide +kernel
theorem dX11_rider_65 : decode cX11_rider 65 = .ok (.aload_n 0, 1) := by decide +kernel
theorem dX11_rider_66 : decode cX11_rider 66 = .ok (.getfield 16, 3) := by decide +kernel
theorem dX11_rider_69 : decode cX11_rider 69 = .ok (.iconst 4, 1) := by decide +kernel
theorem dX11_rider_70 : decode cX11_rider 70 = .ok (.iload_n 1, 1) := by decide +kernel
theorem dX11_rider_71 : decode cX11_rider 71 = .ok (.imul, 1) := by decide +kernel
theorem dX11_rider_72 : decode cX11_rider 72 = .ok (.iconst 1, 1) := by decide +kernel
theorem dX11_rider_73 : decode cX11_rider 73 = .ok (.iadd, 1) := by decide +kernel
theorem dX11_rider_74 : decode cX11_rider 74 = .ok (.iaload, 1) := by decide +kernel
theorem dX11_rider_75 : decode cX11_rider 75 = .ok (.imul, 1) := by decide +kernel
theorem dX11_rider_76 : decode cX11_rider 76 = .ok (.iadd, 1) := by decide +kernel
theorem dX11_rider_77 : decode cX11_rider 77 = .ok (.aload_n 0, 1) := by decide +kernel
theorem dX11_rider_78 : decode cX11_rider 78 = .ok (.getfield 16, 3) := by decide +kernel
theorem dX11_rider_81 : decode cX11_rider 81 = .ok (.iconst 4, 1) := by decide +kernel
theorem dX11_rider_82 : decode cX11_rider 82 = .ok (.iload_n 1, 1) := by decide +kernel
theorem dX11_rider_83 : decode cX11_rider 83 = .ok (.imul, 1) := by decide +kernel
theorem dX11_rider_84 : decode cX11_rider 84 = .ok (.iconst 2, 1) := by decide +kernel
theorem dX11_rider_85 : decode cX11_rider 85 = .ok (.iadd, 1) := by decide +kernel
theorem dX11_rider_86 : decode cX11_rider 86 = .ok (.iaload, 1) := by decide +kernel
theorem dX11_rider_87 : decode cX11_rider 87 = .ok (.iadd, 1) := by decide +kernel
theorem dX11_rider_88 : decode cX11_rider 88 = .ok (.ireturn, 1) := by decide +kernel
theorem dX11_rider_89 : decode cX11_rider 89 = .ok (.bipush 100, 2) := by decide +kernel
theorem dX11_rider_91 : decode cX11_rider 91 = .ok (.aload_n 0, 1) := by decide +kernel
theorem dX11_rider_92 : decode cX11_rider 92 = .ok (.iload_n 1, 1) := by decide +kernel
theorem dX11_rider_93 : decode cX11_rider 93 = .ok (.iconst 0, 1) := by decide +kernel
theorem dX11_rider_94 : decode cX11_rider 94 = .ok (.invokevirtual 103, 3) := by decide +kernel
theorem dX11_rider_97 : decode cX11_rider 97 = .ok (.imul, 1) := by decide +kernel
theorem dX11_rider_98 : decode cX11_rider 98 = .ok (.bipush 10, 2) := by decide +kernel
theorem dX11_rider_100 : decode cX11_rider 100 = .ok (.aload_n 0, 1) := by decide +kernel
theorem dX11_rider_101 : decode cX11_rider 101 = .ok (.iload_n 1, 1) := by decide +kernel
theorem dX11_rider_102 : decode cX11_rider 102 = .ok (.iconst 1, 1) := by decide +kernel
theorem dX11_rider_103 : decode cX11_rider 103 = .ok (.invokevirtual 103, 3) := by decide +kernel
theorem dX11_rider_106 : decode cX11_rider 106 = .ok (.imul, 1) := by decide +kernel
theorem dX11_rider_107 : decode cX11_rider 107 = .ok (.iadd, 1) := by decide +kernel
theorem dX11_rider_108 : decode cX11_rider 108 = .ok (.aload_n 0, 1) := by decide +kernel
theorem dX11_rider_109 : decode cX11_rider 109 = .ok (.iload_n 1, 1) := by decide +kernel
theorem dX11_rider_110 : decode cX11_rider 110 = .ok (.iconst 2, 1) := by decide +kernel
theorem dX11_rider_111 : decode cX11_rider 111 = .ok (.invokevirtual 103, 3) := by decide +kernel
theorem dX11_rider_114 : decode cX11_rider 114 = .ok (.iadd, 1) := by decide +kernel
theorem dX11_rider_115 : decode cX11_rider 115 = .ok (.ireturn, 1) := by decide +kernel
theorem dX11_rider_116 : decode cX11_rider 116 = .ok (.aload_n 0, 1) := by decide +kernel
theorem dX11_rider_117 : decode cX11_rider 117 = .ok (.getfield 16, 3) := by decide +kernel
theorem dX11_rider_120 : decode cX11_rider 120 = .ok (.iconst 4, 1) := by decide +kernel
theorem dX11_rider_121 : decode cX11_rider 121 = .ok (.iload_n 1, 1) := by decide +kernel
theorem dX11_rider_122 : decode cX11_rider 122 = .ok (.imul, 1) := by decide +kernel
theorem dX11_rider_123 : decode cX11_rider 123 = .ok (.iconst 3, 1) := by decide +kernel
theorem dX11_rider_124 : decode cX11_rider 124 = .ok (.iadd, 1) := by decide +kernel
theorem dX11_rider_125 : decode cX11_rider 125 = .ok (.iaload, 1) := by decide +kernel
theorem dX11_rider_126 : decode cX11_rider 126 = .ok (.ireturn, 1) := by decide +kernel
theorem dX11_rider_127 : decode cX11_rider 127 = .ok (.aload_n 0, 1) := by decide +kernel
theorem dX11_rider_128 : decode cX11_rider 128 = .ok (.getfield 25, 3) := by decide +kernel
theorem dX11_rider_131 : decode cX11_rider 131 = .ok (.iload_n 1, 1) := by decide +kernel
theorem dX11_rider_132 : decode cX11_rider 132 = .ok (.iaload, 1) := by decide +kernel
theorem dX11_rider_133 : decode cX11_rider 133 = .ok (.ireturn, 1) := by decide +kernel
theorem dX11_rider_134 : decode cX11_rider 134 = .ok (.aload_n 0, 1) := by decide +kernel
theorem dX11_rider_135 : decode cX11_rider 135 = .ok (.iload_n 1, 1) := by decide +kernel
theorem dX11_rider_136 : decode cX11_rider 136 = .ok (.invokevirtual 156, 3) := by decide +kernel
theorem dX11_rider_139 : decode cX11_rider 139 = .ok (.ireturn, 1) := by decide +kernel
theorem dX11_rider_140 : decode cX11_rider 140 = .ok (.bipush (-2), 2) := by decide +kernel
theorem dX11_rider_142 : decode cX11_rider 142 = .ok (.ireturn, 1) := by decide +kernel
theorem dX11_worth_0 : decode cX11_worth 0 = .ok (.aload_n 0, 1) := by decide +kernel
theorem dX11_worth_1 : decode cX11_worth 1 = .ok (.iconst 0, 1) := by decide +kernel
theorem dX11_worth_2 : decode cX11_worth 2 = .ok (.putfield 56, 3) := by decide +kernel
theorem dX11_worth_5 : decode cX11_worth 5 = .ok (.aload_n 0, 1) := by decide +kernel
theorem dX11_worth_6 : decode cX11_worth 6 = .ok (.iload_n 1, 1) := by decide +kernel
theorem dX11_worth_7 : decode cX11_worth 7 = .ok (.invokevirtual 149, 3) := by decide +kernel
theorem dX11_worth_10 : decode cX11_worth 10 = .ok (.ifCond .ne 11, 3) := by decide +kernel
theorem dX11_worth_13 : decode cX11_worth 13 = .ok (.aload_n 0, 1) := by decide +kernel
theorem dX11_worth_14 : decode cX11_worth 14 = .ok (.iload_n 2, 1) := by decide +kernel
theorem dX11_worth_15 : decode cX11_worth 15 = .ok (.invokevirtual 153, 3) := by decide +kernel
theorem dX11_worth_18 : decode cX11_worth 18 = .ok (.ifCond .eq 7, 3) := by decide +kernel
theorem dX11_worth_21 : decode cX11_worth 21 = .ok (.iconst (-1), 1) := by decide +kernel
theorem dX11_worth_22 : decode cX11_worth 22 = .ok (.goto 9, 3) := by decide +kernel
theorem dX11_worth_25 : decode cX11_worth 25 = .ok (.aload_n 0, 1) := by decide +kernel
theorem dX11_worth_26 : decode cX11_worth 26 = .ok (.iload_n 1, 1) := by decide +kernel
theorem dX11_worth_27 : decode cX11_worth 27 = .ok (.iload_n 2, 1) := by decide +kernel
theorem dX11_worth_28 : decode cX11_worth 28 = .ok (.invokevirtual 106, 3) := by decide +kernel
theorem dX11_worth_31 : decode cX11_worth 31 = .ok (.ireturn, 1) := by decide +kernel
theorem dX11_note_0 : decode cX11_note 0 = .ok (.aload_n 0, 1) := by decide +kernel
theorem dX11_note_1 : decode cX11_note 1 = .ok (.getfield 100, 3) := by decide +kernel
theorem dX11_note_4 : decode cX11_note 4 = .ok (.bipush 14, 2) := by decide +kernel
theorem dX11_note_6 : decode cX11_note 6 = .ok (.if_icmp .ne 43, 3) := by decide +kernel
theorem dX11_note_9 : decode cX11_note 9 = .ok (.iconst 0, 1) := by decide +kernel
theorem dX11_note_10 : decode cX11_note 10 = .ok (.istore_n 1, 1) := by decide +kernel
theorem dX11_note_11 : decode cX11_note 11 = .ok (.iload_n 1, 1) := by decide +kernel
theorem dX11_note_12 : decode cX11_note 12 = .ok (.sipush 273, 3) := by decide +kernel
theorem dX11_note_15 : decode cX11_note 15 = .ok (.if_icmp .ge 24, 3) := by decide +kernel
theorem dX11_note_18 : decode cX11_note 18 = .ok (.aload_n 0, 1) := by decide +kernel
theorem dX11_note_19 : decode cX11_note 19 = .ok (.getfield 28, 3) := by decide +kernel
theorem dX11_note_22 : decode cX11_note 22 = .ok (.iload_n 1, 1) := by decide +kernel
theorem dX11_note_23 : decode cX11_note 23 = .ok (.aload_n 0, 1) := by decide +kernel
theorem dX11_note_24 : decode cX11_note 24 = .ok (.getfield 28, 3) := by decide +kernel
theorem dX11_note_27 : decode cX11_note 27 = .ok (.iload_n 1, 1) := by decide +kernel
theorem dX11_note_28 : decode cX11_note 28 = .ok (.bipush 21, 2) := by decide +kernel
theorem dX11_note_30 : decode cX11_note 30 = .ok (.iadd, 1) := by decide +kernel
theorem dX11_note_31 : decode cX11_note 31 = .ok (.iaload, 1) := by decide +kernel
theorem dX11_note_32 : decode cX11_note 32 = .ok (.iastore, 1) := by decide +kernel
theorem dX11_note_33 : decode cX11_note 33 = .ok (.iinc 1 1, 3) := by decide +kernel
theorem dX11_note_36 : decode cX11_note 36 = .ok (.goto (-25), 3) := by decide +kernel
theorem dX11_note_39 : decode cX11_note 39 = .ok (.aload_n 0, 1) := by decide +kernel
theorem dX11_note_40 : decode cX11_note 40 = .ok (.dup, 1) := by decide +kernel
theorem dX11_note_41 : decode cX11_note 41 = .ok (.getfield 100, 3) := by decide +kernel
theorem dX11_note_44 : decode cX11_note 44 = .ok (.iconst 1, 1) := by decide +kernel
theorem dX11_note_45 : decode cX11_note 45 = .ok (.isub, 1) := by decide +kernel
theorem dX11_note_46 : decode cX11_note 46 = .ok (.putfield 100, 3) := by decide +kernel
theorem dX11_note_49 : decode cX11_note 49 = .ok (.iconst 0, 1) := by decide +kernel
theorem dX11_note_50 : decode cX11_note 50 = .ok (.istore_n 1, 1) := by decide +kernel
theorem dX11_note_51 : decode cX11_note 51 = .ok (.iload_n 1, 1) := by decide +kernel
theorem dX11_note_52 : decode cX11_note 52 = .ok (.bipush 21, 2) := by decide +kernel
theorem dX11_note_54 : decode cX11_note 54 = .ok (.if_icmp .ge 29, 3) := by decide +kernel
theorem dX11_note_57 : decode cX11_note 57 = .ok (.aload_n 0, 1) := by decide +kernel
theorem dX11_note_58 : decode cX11_note 58 = .ok (.getfield 28, 3) := by decide +kernel
theorem dX11_note_61 : decode cX11_note 61 = .ok (.bipush 21, 2) := by decide +kernel
theorem dX11_note_63 : decode cX11_note 63 = .ok (.aload_n 0, 1) := by decide +kernel
theorem dX11_note_64 : decode cX11_note 64 = .ok (.getfield 100, 3) := by decide +kernel
theorem dX11_note_67 : decode cX11_note 67 = .ok (.imul, 1) := by decide +kernel
theorem dX11_note_68 : decode cX11_note 68 = .ok (.iload_n 1, 1) := by decide +kernel
theorem dX11_note_69 : decode cX11_note 69 = .ok (.iadd, 1) := by decide +kernel
theorem dX11_note_70 : decode cX11_note 70 = .ok (.aload_n 0, 1) := by decide +kernel
theorem dX11_note_71 : decode cX11_note 71 = .ok (.getfield 25, 3) := by decide +kernel
theorem dX11_note_74 : decode cX11_note 74 = .ok (.iload_n 1, 1) := by decide +kernel
theorem dX11_note_75 : decode cX11_note 75 = .ok (.iaload, 1) := by decide +kernel
theorem dX11_note_76 : decode cX11_note 76 = .ok (.iastore, 1) := by decide +kernel
theorem dX11_note_77 : decode cX11_note 77 = .ok (.iinc 1 1, 3) := by decide +kernel
theorem dX11_note_80 : decode cX11_note 80 = .ok (.goto (-29), 3) := by decide +kernel
theorem dX11_note_83 : decode cX11_note 83 = .ok (.aload_n 0, 1) := by decide +kernel
theorem dX11_note_84 : decode cX11_note 84 = .ok (.dup, 1) := by decide +kernel
theorem dX11_note_85 : decode cX11_note 85 = .ok (.getfield 100, 3) := by decide +kernel
theorem dX11_note_88 : decode cX11_note 88 = .ok (.iconst 1, 1) := by decide +kernel
theorem dX11_note_89 : decode cX11_note 89 = .ok (.iadd, 1) := by decide +kernel
theorem dX11_note_90 : decode cX11_note 90 = .ok (.putfield 100, 3) := by decide +kernel
theorem dX11_note_93 : decode cX11_note 93 = .ok (.return_, 1) := by decide +kernel
theorem dX11_goLead_0 : decode cX11_goLead 0 = .ok (.aload_n 0, 1) := by decide +kernel
theorem dX11_goLead_1 : decode cX11_goLead 1 = .ok (.iload_n 3, 1) := by decide +kernel
theorem dX11_goLead_2 : decode cX11_goLead 2 = .ok (.iload_n 2, 1) := by decide +kernel
theorem dX11_goLead_3 : decode cX11_goLead 3 = .ok (.invokevirtual 121, 3) := by decide +kernel
theorem dX11_goLead_6 : decode cX11_goLead 6 = .ok (.ifCond .ne 5, 3) := by decide +kernel
theorem dX11_goLead_9 : decode cX11_goLead 9 = .ok (.iconst 0, 1) := by decide +kernel
theorem dX11_goLead_10 : decode cX11_goLead 10 = .ok (.ireturn, 1) := by decide +kernel
theorem dX11_goLead_11 : decode cX11_goLead 11 = .ok (.aload_n 0, 1) := by decide +kernel
theorem dX11_goLead_12 : decode cX11_goLead 12 = .ok (.aload_n 1, 1) := by decide +kernel
theorem dX11_goLead_13 : decode cX11_goLead 13 = .ok (.iload_n 3, 1) := by decide +kernel
theorem dX11_goLead_14 : decode cX11_goLead 14 = .ok (.invokevirtual 128, 3) := by decide +kernel
theorem dX11_goLead_17 : decode cX11_goLead 17 = .ok (.ifCond .eq 30, 3) := by decide +kernel
theorem dX11_goLead_20 : decode cX11_goLead 20 = .ok (.aload_n 0, 1) := by decide +kernel
theorem dX11_goLead_21 : decode cX11_goLead 21 = .ok (.aload_n 1, 1) := by decide +kernel
theorem dX11_goLead_22 : decode cX11_goLead 22 = .ok (.iload_n 3, 1) := by decide +kernel
theorem dX11_goLead_23 : decode cX11_goLead 23 = .ok (.invokevirtual 132, 3) := by decide +kernel
theorem dX11_goLead_26 : decode cX11_goLead 26 = .ok (.istore 4, 2) := by decide +kernel
theorem dX11_goLead_28 : decode cX11_goLead 28 = .ok (.aload_n 0, 1) := by decide +kernel
theorem dX11_goLead_29 : decode cX11_goLead 29 = .ok (.iload_n 3, 1) := by decide +kernel
theorem dX11_goLead_30 : decode cX11_goLead 30 = .ok (.iload_n 2, 1) := by decide +kernel
theorem dX11_goLead_31 : decode cX11_goLead 31 = .ok (.iload 4, 2) := by decide +kernel
theorem dX11_goLead_33 : decode cX11_goLead 33 = .ok (.invokevirtual 117, 3) := by decide +kernel
theorem dX11_goLead_36 : decode cX11_goLead 36 = .ok (.ifCond .ne 5, 3) := by decide +kernel
theorem dX11_goLead_39 : decode cX11_goLead 39 = .ok (.iconst 0, 1) := by decide +kernel
theorem dX11_goLead_40 : decode cX11_goLead 40 = .ok (.ireturn, 1) := by decide +kernel
theorem dX11_goLead_41 : decode cX11_goLead 41 = .ok (.aload_n 1, 1) := by decide +kernel
theorem dX11_goLead_42 : decode cX11_goLead 42 = .ok (.iload 4, 2) := by decide +kernel
theorem dX11_goLead_44 : decode cX11_goLead 44 = .ok (.bipush (-9), 2) := by decide +kernel
theorem dX11_goLead_46 : decode cX11_goLead 46 = .ok (.iastore, 1) := by decide +kernel
theorem dX11_goLead_47 : decode cX11_goLead 47 = .ok (.aload_n 1, 1) := by decide +kernel
theorem dX11_goLead_48 : decode cX11_goLead 48 = .ok (.iload_n 2, 1) := by decide +kernel
theorem dX11_goLead_49 : decode cX11_goLead 49 = .ok (.iload_n 3, 1) := by decide +kernel
theorem dX11_goLead_50 : decode cX11_goLead 50 = .ok (.iastore, 1) := by decide +kernel
theorem dX11_goLead_51 : decode cX11_goLead 51 = .ok (.iconst 1, 1) := by decide +kernel
theorem dX11_goLead_52 : decode cX11_goLead 52 = .ok (.ireturn, 1) := by decide +kernel
theorem dX11_lead_0 : decode cX11_lead 0 = .ok (.aload_n 0, 1) := by decide +kernel
theorem dX11_lead_1 : decode cX11_lead 1 = .ok (.iconst 0, 1) := by decide +kernel
theorem dX11_lead_2 : decode cX11_lead 2 = .ok (.putfield 56, 3) := by decide +kernel
theorem dX11_lead_5 : decode cX11_lead 5 = .ok (.aload_n 0, 1) := by decide +kernel
theorem dX11_lead_6 : decode cX11_lead 6 = .ok (.iload_n 1, 1) := by decide +kernel
theorem dX11_lead_7 : decode cX11_lead 7 = .ok (.invokevirtual 153, 3) := by decide +kernel
theorem dX11_lead_10 : decode cX11_lead 10 = .ok (.ifCond .ne 11, 3) := by decide +kernel
theorem dX11_lead_13 : decode cX11_lead 13 = .ok (.aload_n 0, 1) := by decide +kernel
theorem dX11_lead_14 : decode cX11_lead 14 = .ok (.iload_n 2, 1) := by decide +kernel
theorem dX11_lead_15 : decode cX11_lead 15 = .ok (.invokevirtual 149, 3) := by decide +kernel
theorem dX11_lead_18 : decode cX11_lead 18 = .ok (.ifCond .eq 5, 3) := by decide +kernel
theorem dX11_lead_21 : decode cX11_lead 21 = .ok (.iconst (-1), 1) := by decide +kernel
theorem dX11_lead_22 : decode cX11_lead 22 = .ok (.ireturn, 1) := by decide +kernel
theorem dX11_lead_23 : decode cX11_lead 23 = .ok (.aload_n 0, 1) := by decide +kernel
theorem dX11_lead_24 : decode cX11_lead 24 = .ok (.getfield 25, 3) := by decide +kernel
theorem dX11_lead_27 : decode cX11_lead 27 = .ok (.iload_n 1, 1) := by decide +kernel
theorem dX11_lead_28 : decode cX11_lead 28 = .ok (.iaload, 1) := by decide +kernel
theorem dX11_lead_29 : decode cX11_lead 29 = .ok (.bipush (-9), 2) := by decide +kernel
theorem dX11_lead_31 : decode cX11_lead 31 = .ok (.if_icmp .eq 6, 3) := by decide +kernel
theorem dX11_lead_34 : decode cX11_lead 34 = .ok (.bipush (-3), 2) := by decide +kernel
theorem dX11_lead_36 : decode cX11_lead 36 = .ok (.ireturn, 1) := by decide +kernel
theorem dX11_lead_37 : decode cX11_lead 37 = .ok (.aload_n 0, 1) := by decide +kernel
theorem dX11_lead_38 : decode cX11_lead 38 = .ok (.invokevirtual 159, 3) := by decide +kernel
theorem dX11_lead_41 : decode cX11_lead 41 = .ok (.aload_n 0, 1) := by decide +kernel
theorem dX11_lead_42 : decode cX11_lead 42 = .ok (.aload_n 0, 1) := by decide +kernel
theorem dX11_lead_43 : decode cX11_lead 43 = .ok (.getfield 25, 3) := by decide +kernel
theorem dX11_lead_46 : decode cX11_lead 46 = .ok (.iload_n 1, 1) := by decide +kernel
theorem dX11_lead_47 : decode cX11_lead 47 = .ok (.iload_n 2, 1) := by decide +kernel
theorem dX11_lead_48 : decode cX11_lead 48 = .ok (.invokevirtual 162, 3) := by decide +kernel
theorem dX11_lead_51 : decode cX11_lead 51 = .ok (.ifCond .eq 7, 3) := by decide +kernel
theorem dX11_lead_54 : decode cX11_lead 54 = .ok (.iconst 1, 1) := by decide +kernel
theorem dX11_lead_55 : decode cX11_lead 55 = .ok (.goto 4, 3) := by decide +kernel
theorem dX11_lead_58 : decode cX11_lead 58 = .ok (.iconst 0, 1) := by decide +kernel
theorem dX11_lead_59 : decode cX11_lead 59 = .ok (.ireturn, 1) := by decide +kernel
theorem dX11_dress_0 : decode cX11_dress 0 = .ok (.aload_n 0, 1) := by decide +kernel
theorem dX11_dress_1 : decode cX11_dress 1 = .ok (.iconst 0, 1) := by decide +kernel
theorem dX11_dress_2 : decode cX11_dress 2 = .ok (.putfield 56, 3) := by decide +kernel
theorem dX11_dress_5 : decode cX11_dress 5 = .ok (.aload_n 0, 1) := by decide +kernel
theorem dX11_dress_6 : decode cX11_dress 6 = .ok (.iload_n 1, 1) := by decide +kernel
theorem dX11_dress_7 : decode cX11_dress 7 = .ok (.invokevirtual 153, 3) := by decide +kernel
theorem dX11_dress_10 : decode cX11_dress 10 = .ok (.ifCond .eq 5, 3) := by decide +kernel
theorem dX11_dress_13 : decode cX11_dress 13 = .ok (.iconst (-1), 1) := by decide +kernel
theorem dX11_dress_14 : decode cX11_dress 14 = .ok (.ireturn, 1) := by decide +kernel
theorem dX11_dress_15 : decode cX11_dress 15 = .ok (.iload_n 2, 1) := by decide +kernel
theorem dX11_dress_16 : decode cX11_dress 16 = .ok (.i2l, 1) := by decide +kernel
theorem dX11_dress_17 : decode cX11_dress 17 = .ok (.lconst 0, 1) := by decide +kernel
theorem dX11_dress_18 : decode cX11_dress 18 = .ok (.ldc2_w 165, 3) := by decide +kernel
theorem dX11_dress_21 : decode cX11_dress 21 = .ok (.invokestatic 63, 3) := by decide +kernel
theorem dX11_dress_24 : decode cX11_dress 24 = .ok (.ifCond .ne 6, 3) := by decide +kernel
theorem dX11_dress_27 : decode cX11_dress 27 = .ok (.bipush (-2), 2) := by decide +kernel
theorem dX11_dress_29 : decode cX11_dress 29 = .ok (.ireturn, 1) := by decide +kernel
theorem dX11_dress_30 : decode cX11_dress 30 = .ok (.aload_n 0, 1) := by decide +kernel
theorem dX11_dress_31 : decode cX11_dress 31 = .ok (.iload_n 1, 1) := by decide +kernel
theorem dX11_dress_32 : decode cX11_dress 32 = .ok (.iload_n 2, 1) := by decide +kernel
theorem dX11_dress_33 : decode cX11_dress 33 = .ok (.invokevirtual 103, 3) := by decide +kernel
theorem dX11_dress_36 : decode cX11_dress 36 = .ok (.bipush 9, 2) := by decide +kernel
theorem dX11_dress_38 : decode cX11_dress 38 = .ok (.if_icmp .ne 6, 3) := by decide +kernel
theorem dX11_dress_41 : decode cX11_dress 41 = .ok (.bipush (-4), 2) := by decide +kernel
theorem dX11_dress_43 : decode cX11_dress 43 = .ok (.ireturn, 1) := by decide +kernel
theorem dX11_dress_44 : decode cX11_dress 44 = .ok (.aload_n 0, 1) := by decide +kernel
theorem dX11_dress_45 : decode cX11_dress 45 = .ok (.invokevirtual 159, 3) := by decide +kernel
theorem dX11_dress_48 : decode cX11_dress 48 = .ok (.aload_n 0, 1) := by decide +kernel
theorem dX11_dress_49 : decode cX11_dress 49 = .ok (.getfield 25, 3) := by decide +kernel
theorem dX11_dress_52 : decode cX11_dress 52 = .ok (.iconst 5, 1) := by decide +kernel
theorem dX11_dress_53 : decode cX11_dress 53 = .ok (.iconst 3, 1) := by decide +kernel
theorem dX11_dress_54 : decode cX11_dress 54 = .ok (.iload_n 1, 1) := by decide +kernel
theorem dX11_dress_55 : decode cX11_dress 55 = .ok (.imul, 1) := by decide +kernel
theorem dX11_dress_56 : decode cX11_dress 56 = .ok (.iadd, 1) := by decide +kernel
theorem dX11_dress_57 : decode cX11_dress 57 = .ok (.iload_n 2, 1) := by decide +kernel
theorem dX11_dress_58 : decode cX11_dress 58 = .ok (.iadd, 1) := by decide +kernel
theorem dX11_dress_59 : decode cX11_dress 59 = .ok (.dup2, 1) := by decide +kernel
theorem dX11_dress_60 : decode cX11_dress 60 = .ok (.iaload, 1) := by decide +kernel
theorem dX11_dress_61 : decode cX11_dress 61 = .ok (.iconst 1, 1) := by decide +kernel
theorem dX11_dress_62 : decode cX11_dress 62 = .ok (.iadd, 1) := by decide +kernel
theorem dX11_dress_63 : decode cX11_dress 63 = .ok (.iastore, 1) := by decide +kernel
theorem dX11_dress_64 : decode cX11_dress 64 = .ok (.aload_n 0, 1) := by decide +kernel
theorem dX11_dress_65 : decode cX11_dress 65 = .ok (.getfield 25, 3) := by decide +kernel
theorem dX11_dress_68 : decode cX11_dress 68 = .ok (.bipush 20, 2) := by decide +kernel
theorem dX11_dress_70 : decode cX11_dress 70 = .ok (.dup2, 1) := by decide +kernel
theorem dX11_dress_71 : decode cX11_dress 71 = .ok (.iaload, 1) := by decide +kernel
theorem dX11_dress_72 : decode cX11_dress 72 = .ok (.iconst 1, 1) := by decide +kernel
theorem dX11_dress_73 : decode cX11_dress 73 = .ok (.iadd, 1) := by decide +kernel
theorem dX11_dress_74 : decode cX11_dress 74 = .ok (.iastore, 1) := by decide +kernel
theorem dX11_dress_75 : decode cX11_dress 75 = .ok (.aload_n 0, 1) := by decide +kernel
theorem dX11_dress_76 : decode cX11_dress 76 = .ok (.iload_n 1, 1) := by decide +kernel
theorem dX11_dress_77 : decode cX11_dress 77 = .ok (.iload_n 2, 1) := by decide +kernel
theorem dX11_dress_78 : decode cX11_dress 78 = .ok (.invokevirtual 103, 3) := by decide +kernel
theorem dX11_dress_81 : decode cX11_dress 81 = .ok (.ireturn, 1) := by decide +kernel
theorem dX11_giveBack_0 : decode cX11_giveBack 0 = .ok (.aload_n 0, 1) := by decide +kernel
theorem dX11_giveBack_1 : decode cX11_giveBack 1 = .ok (.iconst 0, 1) := by decide +kernel
theorem dX11_giveBack_2 : decode cX11_giveBack 2 = .ok (.putfield 56, 3) := by decide +kernel
theorem dX11_giveBack_5 : decode cX11_giveBack 5 = .ok (.aload_n 0, 1) := by decide +kernel
theorem dX11_giveBack_6 : decode cX11_giveBack 6 = .ok (.iload_n 1, 1) := by decide +kernel
theorem dX11_giveBack_7 : decode cX11_giveBack 7 = .ok (.invokevirtual 153, 3) := by decide +kernel
theorem dX11_giveBack_10 : decode cX11_giveBack 10 = .ok (.ifCond .eq 5, 3) := by decide +kernel
theorem dX11_giveBack_13 : decode cX11_giveBack 13 = .ok (.iconst (-1), 1) := by decide +kernel
theorem dX11_giveBack_14 : decode cX11_giveBack 14 = .ok (.ireturn, 1) := by decide +kernel
theorem dX11_giveBack_15 : decode cX11_giveBack 15 = .ok (.aload_n 0, 1) := by decide +kernel
theorem dX11_giveBack_16 : decode cX11_giveBack 16 = .ok (.getfield 25, 3) := by decide +kernel
theorem dX11_giveBack_19 : decode cX11_giveBack 19 = .ok (.iload_n 1, 1) := by decide +kernel
theorem dX11_giveBack_20 : decode cX11_giveBack 20 = .ok (.iaload, 1) := by decide +kernel
theorem dX11_giveBack_21 : decode cX11_giveBack 21 = .ok (.istore_n 2, 1) := by decide +kernel
theorem dX11_giveBack_22 : decode cX11_giveBack 22 = .ok (.iload_n 2, 1) := by decide +kernel
theorem dX11_giveBack_23 : decode cX11_giveBack 23 = .ok (.bipush (-9), 2) := by decide +kernel
theorem dX11_giveBack_25 : decode cX11_giveBack 25 = .ok (.if_icmp .ne 6, 3) := by decide +kernel
theorem dX11_giveBack_28 : decode cX11_giveBack 28 = .ok (.bipush (-3), 2) := by decide +kernel
theorem dX11_giveBack_30 : decode cX11_giveBack 30 = .ok (.ireturn, 1) := by decide +kernel
theorem dX11_giveBack_31 : decode cX11_giveBack 31 = .ok (.aload_n 0, 1) := by decide +kernel
theorem dX11_giveBack_32 : decode cX11_giveBack 32 = .ok (.invokevirtual 159, 3) := by decide +kernel
theorem dX11_giveBack_35 : decode cX11_giveBack 35 = .ok (.aload_n 0, 1) := by decide +kernel
theorem dX11_giveBack_36 : decode cX11_giveBack 36 = .ok (.getfield 25, 3) := by decide +kernel
theorem dX11_giveBack_39 : decode cX11_giveBack 39 = .ok (.iload_n 1, 1) := by decide +kernel
theorem dX11_giveBack_40 : decode cX11_giveBack 40 = .ok (.bipush (-9), 2) := by decide +kernel
theorem dX11_giveBack_42 : decode cX11_giveBack 42 = .ok (.iastore, 1) := by decide +kernel
theorem dX11_giveBack_43 : decode cX11_giveBack 43 = .ok (.iload_n 2, 1) := by decide +kernel
theorem dX11_giveBack_44 : decode cX11_giveBack 44 = .ok (.ireturn, 1) := by decide +kernel
theorem dX11_bell_0 : decode cX11_bell 0 = .ok (.aload_n 0, 1) := by decide +kernel
theorem dX11_bell_1 : decode cX11_bell 1 = .ok (.iconst 0, 1) := by decide +kernel
theorem dX11_bell_2 : decode cX11_bell 2 = .ok (.putfield 56, 3) := by decide +kernel
theorem dX11_bell_5 : decode cX11_bell 5 = .ok (.aload_n 0, 1) := by decide +kernel
theorem dX11_bell_6 : decode cX11_bell 6 = .ok (.invokevirtual 159, 3) := by decide +kernel
theorem dX11_bell_9 : decode cX11_bell 9 = .ok (.iconst 5, 1) := by decide +kernel
theorem dX11_bell_10 : decode cX11_bell 10 = .ok (.istore_n 1, 1) := by decide +kernel
theorem dX11_bell_11 : decode cX11_bell 11 = .ok (.iload_n 1, 1) := by decide +kernel
theorem dX11_bell_12 : decode cX11_bell 12 = .ok (.bipush 20, 2) := by decide +kernel
theorem dX11_bell_14 : decode cX11_bell 14 = .ok (.if_icmp .ge 16, 3) := by decide +kernel
theorem dX11_bell_17 : decode cX11_bell 17 = .ok (.aload_n 0, 1) := by decide +kernel
theorem dX11_bell_18 : decode cX11_bell 18 = .ok (.getfield 25, 3) := by decide +kernel
theorem dX11_bell_21 : decode cX11_bell 21 = .ok (.iload_n 1, 1) := by decide +kernel
theorem dX11_bell_22 : decode cX11_bell 22 = .ok (.iconst 0, 1) := by decide +kernel
theorem dX11_bell_23 : decode cX11_bell 23 = .ok (.iastore, 1) := by decide +kernel
theorem dX11_bell_24 : decode cX11_bell 24 = .ok (.iinc 1 1, 3) := by decide +kernel
theorem dX11_bell_27 : decode cX11_bell 27 = .ok (.goto (-16), 3) := by decide +kernel
theorem dX11_bell_30 : decode cX11_bell 30 = .ok (.iconst 0, 1) := by decide +kernel
theorem dX11_bell_31 : decode cX11_bell 31 = .ok (.istore_n 1, 1) := by decide +kernel
theorem dX11_bell_32 : decode cX11_bell 32 = .ok (.iconst 0, 1) := by decide +kernel
theorem dX11_bell_33 : decode cX11_bell 33 = .ok (.istore_n 2, 1) := by decide +kernel
theorem dX11_bell_34 : decode cX11_bell 34 = .ok (.iload_n 2, 1) := by decide +kernel
theorem dX11_bell_35 : decode cX11_bell 35 = .ok (.aload_n 0, 1) := by decide +kernel
theorem dX11_bell_36 : decode cX11_bell 36 = .ok (.getfield 67, 3) := by decide +kernel
theorem dX11_bell_39 : decode cX11_bell 39 = .ok (.if_icmp .ge 48, 3) := by decide +kernel
theorem dX11_bell_42 : decode cX11_bell 42 = .ok (.aload_n 0, 1) := by decide +kernel
theorem dX11_bell_43 : decode cX11_bell 43 = .ok (.getfield 25, 3) := by decide +kernel
theorem dX11_bell_46 : decode cX11_bell 46 = .ok (.iload_n 2, 1) := by decide +kernel
theorem dX11_bell_47 : decode cX11_bell 47 = .ok (.iaload, 1) := by decide +kernel
theorem dX11_bell_48 : decode cX11_bell 48 = .ok (.bipush (-9), 2) := by decide +kernel
theorem dX11_bell_50 : decode cX11_bell 50 = .ok (.if_icmp .eq 31, 3) := by decide +kernel
theorem dX11_bell_53 : decode cX11_bell 53 = .ok (.aload_n 0, 1) := by decide +kernel
theorem dX11_bell_54 : decode cX11_bell 54 = .ok (.aload_n 0, 1) := by decide +kernel
theorem dX11_bell_55 : decode cX11_bell 55 = .ok (.getfield 25, 3) := by decide +kernel
theorem dX11_bell_58 : decode cX11_bell 58 = .ok (.iload_n 2, 1) := by decide +kernel
theorem dX11_bell_59 : decode cX11_bell 59 = .ok (.iaload, 1) := by decide +kernel
theorem dX11_bell_60 : decode cX11_bell 60 = .ok (.iload_n 2, 1) := by decide +kernel
theorem dX11_bell_61 : decode cX11_bell 61 = .ok (.invokevirtual 121, 3) := by decide +kernel
theorem dX11_bell_64 : decode cX11_bell 64 = .ok (.ifCond .ne 17, 3) := by decide +kernel
theorem dX11_bell_67 : decode cX11_bell 67 = .ok (.aload_n 0, 1) := by decide +kernel
theorem dX11_bell_68 : decode cX11_bell 68 = .ok (.getfield 25, 3) := by decide +kernel
theorem dX11_bell_71 : decode cX11_bell 71 = .ok (.iload_n 2, 1) := by decide +kernel
theorem dX11_bell_72 : decode cX11_bell 72 = .ok (.bipush (-9), 2) := by decide +kernel
theorem dX11_bell_74 : decode cX11_bell 74 = .ok (.iastore, 1) := by decide +kernel
theorem dX11_bell_75 : decode cX11_bell 75 = .ok (.iload_n 1, 1) := by decide +kernel
theorem dX11_bell_76 : decode cX11_bell 76 = .ok (.iconst 1, 1) := by decide +kernel
theorem dX11_bell_77 : decode cX11_bell 77 = .ok (.iload_n 2, 1) := by decide +kernel
theorem dX11_bell_78 : decode cX11_bell 78 = .ok (.ishl, 1) := by decide +kernel
theorem dX11_bell_79 : decode cX11_bell 79 = .ok (.ior, 1) := by decide +kernel
theorem dX11_bell_80 : decode cX11_bell 80 = .ok (.istore_n 1, 1) := by decide +kernel
theorem dX11_bell_81 : decode cX11_bell 81 = .ok (.iinc 2 1, 3) := by decide +kernel
theorem dX11_bell_84 : decode cX11_bell 84 = .ok (.goto (-50), 3) := by decide +kernel
theorem dX11_bell_87 : decode cX11_bell 87 = .ok (.iload_n 1, 1) := by decide +kernel
theorem dX11_bell_88 : decode cX11_bell 88 = .ok (.ireturn, 1) := by decide +kernel
theorem dX11_undo_0 : decode cX11_undo 0 = .ok (.aload_n 0, 1) := by decide +kernel
theorem dX11_undo_1 : decode cX11_undo 1 = .ok (.iconst 0, 1) := by decide +kernel
theorem dX11_undo_2 : decode cX11_undo 2 = .ok (.putfield 56, 3) := by decide +kernel
theorem dX11_undo_5 : decode cX11_undo 5 = .ok (.aload_n 0, 1) := by decide +kernel
theorem dX11_undo_6 : decode cX11_undo 6 = .ok (.getfield 100, 3) := by decide +kernel
theorem dX11_undo_9 : decode cX11_undo 9 = .ok (.ifCond .ne 6, 3) := by decide +kernel
theorem dX11_undo_12 : decode cX11_undo 12 = .ok (.bipush (-3), 2) := by decide +kernel
theorem dX11_undo_14 : decode cX11_undo 14 = .ok (.ireturn, 1) := by decide +kernel
theorem dX11_undo_15 : decode cX11_undo 15 = .ok (.aload_n 0, 1) := by decide +kernel
theorem dX11_undo_16 : decode cX11_undo 16 = .ok (.dup, 1) := by decide +kernel
theorem dX11_undo_17 : decode cX11_undo 17 = .ok (.getfield 100, 3) := by decide +kernel
theorem dX11_undo_20 : decode cX11_undo 20 = .ok (.iconst 1, 1) := by decide +kernel
theorem dX11_undo_21 : decode cX11_undo 21 = .ok (.isub, 1) := by decide +kernel
theorem dX11_undo_22 : decode cX11_undo 22 = .ok (.putfield 100, 3) := by decide +kernel
theorem dX11_undo_25 : decode cX11_undo 25 = .ok (.iconst 0, 1) := by decide +kernel
theorem dX11_undo_26 : decode cX11_undo 26 = .ok (.istore_n 1, 1) := by decide +kernel
theorem dX11_undo_27 : decode cX11_undo 27 = .ok (.iload_n 1, 1) := by decide +kernel
theorem dX11_undo_28 : decode cX11_undo 28 = .ok (.bipush 21, 2) := by decide +kernel
theorem dX11_undo_30 : decode cX11_undo 30 = .ok (.if_icmp .ge 29, 3) := by decide +kernel
theorem dX11_undo_33 : decode cX11_undo 33 = .ok (.aload_n 0, 1) := by decide +kernel
theorem dX11_undo_34 : decode cX11_undo 34 = .ok (.getfield 25, 3) := by decide +kernel
theorem dX11_undo_37 : decode cX11_undo 37 = .ok (.iload_n 1, 1) := by decide +kernel
theorem dX11_undo_38 : decode cX11_undo 38 = .ok (.aload_n 0, 1) := by decide +kernel
theorem dX11_undo_39 : decode cX11_undo 39 = .ok (.getfield 28, 3) := by decide +kernel
theorem dX11_undo_42 : decode cX11_undo 42 = .ok (.bipush 21, 2) := by decide +kernel
theorem dX11_undo_44 : decode cX11_undo 44 = .ok (.aload_n 0, 1) := by decide +kernel
theorem dX11_undo_45 : decode cX11_undo 45 = .ok (.getfield 100, 3) := by decide +kernel
theorem dX11_undo_48 : decode cX11_undo 48 = .ok (.imul, 1) := by decide +kernel
theorem dX11_undo_49 : decode cX11_undo 49 = .ok (.iload_n 1, 1) := by decide +kernel
theorem dX11_undo_50 : decode cX11_undo 50 = .ok (.iadd, 1) := by decide +kernel
theorem dX11_undo_51 : decode cX11_undo 51 = .ok (.iaload, 1) := by decide +kernel
theorem dX11_undo_52 : decode cX11_undo 52 = .ok (.iastore, 1) := by decide +kernel
theorem dX11_undo_53 : decode cX11_undo 53 = .ok (.iinc 1 1, 3) := by decide +kernel
theorem dX11_undo_56 : decode cX11_undo 56 = .ok (.goto (-29), 3) := by decide +kernel
theorem dX11_undo_59 : decode cX11_undo 59 = .ok (.aload_n 0, 1) := by decide +kernel
theorem dX11_undo_60 : decode cX11_undo 60 = .ok (.getfield 100, 3) := by decide +kernel
theorem dX11_undo_63 : decode cX11_undo 63 = .ok (.ireturn, 1) := by decide +kernel
theorem dX11_bolts_0 : decode cX11_bolts 0 = .ok (.aload_n 0, 1) := by decide +kernel
theorem dX11_bolts_1 : decode cX11_bolts 1 = .ok (.iconst 0, 1) := by decide +kernel
theorem dX11_bolts_2 : decode cX11_bolts 2 = .ok (.putfield 56, 3) := by decide +kernel
theorem dX11_bolts_5 : decode cX11_bolts 5 = .ok (.aload_n 0, 1) := by decide +kernel
theorem dX11_bolts_6 : decode cX11_bolts 6 = .ok (.iload_n 1, 1) := by decide +kernel
theorem dX11_bolts_7 : decode cX11_bolts 7 = .ok (.invokevirtual 153, 3) := by decide +kernel
theorem dX11_bolts_10 : decode cX11_bolts 10 = .ok (.ifCond .ne 11, 3) := by decide +kernel
theorem dX11_bolts_13 : decode cX11_bolts 13 = .ok (.aload_n 0, 1) := by decide +kernel
theorem dX11_bolts_14 : decode cX11_bolts 14 = .ok (.iload_n 2, 1) := by decide +kernel
theorem dX11_bolts_15 : decode cX11_bolts 15 = .ok (.invokevirtual 149, 3) := by decide +kernel
theorem dX11_bolts_18 : decode cX11_bolts 18 = .ok (.ifCond .eq 7, 3) := by decide +kernel
theorem dX11_bolts_21 : decode cX11_bolts 21 = .ok (.iconst (-1), 1) := by decide +kernel
theorem dX11_bolts_22 : decode cX11_bolts 22 = .ok (.goto 21, 3) := by decide +kernel
theorem dX11_bolts_25 : decode cX11_bolts 25 = .ok (.aload_n 0, 1) := by decide +kernel
theorem dX11_bolts_26 : decode cX11_bolts 26 = .ok (.aload_n 0, 1) := by decide +kernel
theorem dX11_bolts_27 : decode cX11_bolts 27 = .ok (.getfield 25, 3) := by decide +kernel
theorem dX11_bolts_30 : decode cX11_bolts 30 = .ok (.iload_n 1, 1) := by decide +kernel
theorem dX11_bolts_31 : decode cX11_bolts 31 = .ok (.iload_n 2, 1) := by decide +kernel
theorem dX11_bolts_32 : decode cX11_bolts 32 = .ok (.invokevirtual 135, 3) := by decide +kernel
theorem dX11_bolts_35 : decode cX11_bolts 35 = .ok (.ifCond .eq 7, 3) := by decide +kernel
theorem dX11_bolts_38 : decode cX11_bolts 38 = .ok (.iconst 1, 1) := by decide +kernel
theorem dX11_bolts_39 : decode cX11_bolts 39 = .ok (.goto 4, 3) := by decide +kernel
theorem dX11_bolts_42 : decode cX11_bolts 42 = .ok (.iconst 0, 1) := by decide +kernel
theorem dX11_bolts_43 : decode cX11_bolts 43 = .ok (.ireturn, 1) := by decide +kernel
theorem dX11_begin_0 : decode cX11_begin 0 = .ok (.iconst 0, 1) := by decide +kernel
theorem dX11_begin_1 : decode cX11_begin 1 = .ok (.istore_n 1, 1) := by decide +kernel
theorem dX11_begin_2 : decode cX11_begin 2 = .ok (.iload_n 1, 1) := by decide +kernel
theorem dX11_begin_3 : decode cX11_begin 3 = .ok (.iconst 5, 1) := by decide +kernel
theorem dX11_begin_4 : decode cX11_begin 4 = .ok (.if_icmp .ge 17, 3) := by decide +kernel
theorem dX11_begin_7 : decode cX11_begin 7 = .ok (.aload_n 0, 1) := by decide +kernel
theorem dX11_begin_8 : decode cX11_begin 8 = .ok (.getfield 44, 3) := by decide +kernel
theorem dX11_begin_11 : decode cX11_begin 11 = .ok (.iload_n 1, 1) := by decide +kernel
theorem dX11_begin_12 : decode cX11_begin 12 = .ok (.bipush (-9), 2) := by decide +kernel
theorem dX11_begin_14 : decode cX11_begin 14 = .ok (.iastore, 1) := by decide +kernel
theorem dX11_begin_15 : decode cX11_begin 15 = .ok (.iinc 1 1, 3) := by decide +kernel
theorem dX11_begin_18 : decode cX11_begin 18 = .ok (.goto (-16), 3) := by decide +kernel
theorem dX11_begin_21 : decode cX11_begin 21 = .ok (.aload_n 0, 1) := by decide +kernel
theorem dX11_begin_22 : decode cX11_begin 22 = .ok (.iconst 0, 1) := by decide +kernel
theorem dX11_begin_23 : decode cX11_begin 23 = .ok (.putfield 167, 3) := by decide +kernel
theorem dX11_begin_26 : decode cX11_begin 26 = .ok (.return_, 1) := by decide +kernel
theorem dX11_nextOf_0 : decode cX11_nextOf 0 = .ok (.bipush (-9), 2) := by decide +kernel
theorem dX11_nextOf_2 : decode cX11_nextOf 2 = .ok (.istore_n 2, 1) := by decide +kernel
theorem dX11_nextOf_3 : decode cX11_nextOf 3 = .ok (.iconst 0, 1) := by decide +kernel
theorem dX11_nextOf_4 : decode cX11_nextOf 4 = .ok (.istore_n 3, 1) := by decide +kernel
theorem dX11_nextOf_5 : decode cX11_nextOf 5 = .ok (.iload_n 3, 1) := by decide +kernel
theorem dX11_nextOf_6 : decode cX11_nextOf 6 = .ok (.aload_n 0, 1) := by decide +kernel
theorem dX11_nextOf_7 : decode cX11_nextOf 7 = .ok (.getfield 60, 3) := by decide +kernel
theorem dX11_nextOf_10 : decode cX11_nextOf 10 = .ok (.if_icmp .ge 40, 3) := by decide +kernel
theorem dX11_nextOf_13 : decode cX11_nextOf 13 = .ok (.aload_n 0, 1) := by decide +kernel
theorem dX11_nextOf_14 : decode cX11_nextOf 14 = .ok (.getfield 167, 3) := by decide +kernel
theorem dX11_nextOf_17 : decode cX11_nextOf 17 = .ok (.iconst 4, 1) := by decide +kernel
theorem dX11_nextOf_18 : decode cX11_nextOf 18 = .ok (.iload_n 1, 1) := by decide +kernel
theorem dX11_nextOf_19 : decode cX11_nextOf 19 = .ok (.imul, 1) := by decide +kernel
theorem dX11_nextOf_20 : decode cX11_nextOf 20 = .ok (.iload_n 3, 1) := by decide +kernel
theorem dX11_nextOf_21 : decode cX11_nextOf 21 = .ok (.iadd, 1) := by decide +kernel
theorem dX11_nextOf_22 : decode cX11_nextOf 22 = .ok (.invokestatic 170, 3) := by decide +kernel
theorem dX11_nextOf_25 : decode cX11_nextOf 25 = .ok (.ifCond .ne 17, 3) := by decide +kernel
theorem dX11_nextOf_28 : decode cX11_nextOf 28 = .ok (.aload_n 0, 1) := by decide +kernel
theorem dX11_nextOf_29 : decode cX11_nextOf 29 = .ok (.iload_n 1, 1) := by decide +kernel
theorem dX11_nextOf_30 : decode cX11_nextOf 30 = .ok (.iload_n 3, 1) := by decide +kernel
theorem dX11_nextOf_31 : decode cX11_nextOf 31 = .ok (.iload_n 2, 1) := by decide +kernel
theorem dX11_nextOf_32 : decode cX11_nextOf 32 = .ok (.invokevirtual 125, 3) := by decide +kernel
theorem dX11_nextOf_35 : decode cX11_nextOf 35 = .ok (.ifCond .eq 7, 3) := by decide +kernel
theorem dX11_nextOf_38 : decode cX11_nextOf 38 = .ok (.iload_n 3, 1) := by decide +kernel
theorem dX11_nextOf_39 : decode cX11_nextOf 39 = .ok (.goto 4, 3) := by decide +kernel
theorem dX11_nextOf_42 : decode cX11_nextOf 42 = .ok (.iload_n 2, 1) := by decide +kernel
theorem dX11_nextOf_43 : decode cX11_nextOf 43 = .ok (.istore_n 2, 1) := by decide +kernel
theorem dX11_nextOf_44 : decode cX11_nextOf 44 = .ok (.iinc 3 1, 3) := by decide +kernel
theorem dX11_nextOf_47 : decode cX11_nextOf 47 = .ok (.goto (-42), 3) := by decide +kernel
theorem dX11_nextOf_50 : decode cX11_nextOf 50 = .ok (.iload_n 2, 1) := by decide +kernel
theorem dX11_nextOf_51 : decode cX11_nextOf 51 = .ok (.ireturn, 1) := by decide +kernel
theorem dX11_holdByRiders_0 : decode cX11_holdByRiders 0 = .ok (.aload_n 0, 1) := by decide +kernel
theorem dX11_holdByRiders_1 : decode cX11_holdByRiders 1 = .ok (.invokevirtual 173, 3) := by decide +kernel
theorem dX11_holdByRiders_4 : decode cX11_holdByRiders 4 = .ok (.iconst 0, 1) := by decide +kernel
theorem dX11_holdByRiders_5 : decode cX11_holdByRiders 5 = .ok (.istore_n 2, 1) := by decide +kernel
theorem dX11_holdByRiders_6 : decode cX11_holdByRiders 6 = .ok (.iload_n 2, 1) := by decide +kernel
theorem dX11_holdByRiders_7 : decode cX11_holdByRiders 7 = .ok (.aload_n 0, 1) := by decide +kernel
theorem dX11_holdByRiders_8 : decode cX11_holdByRiders 8 = .ok (.getfield 67, 3) := by decide +kernel
theorem dX11_holdByRiders_11 : decode cX11_holdByRiders 11 = .ok (.if_icmp .ge 77, 3) := by decide +kernel
theorem dX11_holdByRiders_14 : decode cX11_holdByRiders 14 = .ok (.iload_n 1, 1) := by decide +kernel
theorem dX11_holdByRiders_15 : decode cX11_holdByRiders 15 = .ok (.iload_n 2, 1) := by decide +kernel
theorem dX11_holdByRiders_16 : decode cX11_holdByRiders 16 = .ok (.invokestatic 170, 3) := by decide +kernel
theorem dX11_holdByRiders_19 : decode cX11_holdByRiders 19 = .ok (.ifCond .eq 22, 3) := by decide +kernel
theorem dX11_holdByRiders_22 : decode cX11_holdByRiders 22 = .ok (.aload_n 0, 1) := by decide +kernel
theorem dX11_holdByRiders_23 : decode cX11_holdByRiders 23 = .ok (.getfield 44, 3) := by decide +kernel
theorem dX11_holdByRiders_26 : decode cX11_holdByRiders 26 = .ok (.iload_n 2, 1) := by decide +kernel
theorem dX11_holdByRiders_27 : decode cX11_holdByRiders 27 = .ok (.iaload, 1) := by decide +kernel
theorem dX11_holdByRiders_28 : decode cX11_holdByRiders 28 = .ok (.bipush (-9), 2) := by decide +kernel
theorem dX11_holdByRiders_30 : decode cX11_holdByRiders 30 = .ok (.if_icmp .ne 11, 3) := by decide +kernel
theorem dX11_holdByRiders_33 : decode cX11_holdByRiders 33 = .ok (.aload_n 0, 1) := by decide +kernel
theorem dX11_holdByRiders_34 : decode cX11_holdByRiders 34 = .ok (.iload_n 2, 1) := by decide +kernel
theorem dX11_holdByRiders_35 : decode cX11_holdByRiders 35 = .ok (.invokevirtual 176, 3) := by decide +kernel
theorem dX11_holdByRiders_38 : decode cX11_holdByRiders 38 = .ok (.goto 5, 3) := by decide +kernel
theorem dX11_holdByRiders_41 : decode cX11_holdByRiders 41 = .ok (.bipush (-9), 2) := by decide +kernel
theorem dX11_holdByRiders_43 : decode cX11_holdByRiders 43 = .ok (.istore_n 3, 1) := by decide +kernel
theorem dX11_holdByRiders_44 : decode cX11_holdByRiders 44 = .ok (.iload_n 3, 1) := by decide +kernel
theorem dX11_holdByRiders_45 : decode cX11_holdByRiders 45 = .ok (.bipush (-9), 2) := by decide +kernel
theorem dX11_holdByRiders_47 : decode cX11_holdByRiders 47 = .ok (.if_icmp .ne 9, 3) := by decide +kernel
theorem dX11_holdByRiders_50 : decode cX11_holdByRiders 50 = .ok (.iinc 2 1, 3) := by decide +kernel
theorem dX11_holdByRiders_53 : decode cX11_holdByRiders 53 = .ok (.goto 32, 3) := by decide +kernel
theorem dX11_holdByRiders_56 : decode cX11_holdByRiders 56 = .ok (.aload_n 0, 1) := by decide +kernel
theorem dX11_holdByRiders_57 : decode cX11_holdByRiders 57 = .ok (.dup, 1) := by decide +kernel
theorem dX11_holdByRiders_58 : decode cX11_holdByRiders 58 = .ok (.getfield 167, 3) := by decide +kernel
theorem dX11_holdByRiders_61 : decode cX11_holdByRiders 61 = .ok (.iconst 1, 1) := by decide +kernel
theorem dX11_holdByRiders_62 : decode cX11_holdByRiders 62 = .ok (.iconst 4, 1) := by decide +kernel
theorem dX11_holdByRiders_63 : decode cX11_holdByRiders 63 = .ok (.iload_n 2, 1) := by decide +kernel
theorem dX11_holdByRiders_64 : decode cX11_holdByRiders 64 = .ok (.imul, 1) := by decide +kernel
theorem dX11_holdByRiders_65 : decode cX11_holdByRiders 65 = .ok (.iload_n 3, 1) := by decide +kernel
theorem dX11_holdByRiders_66 : decode cX11_holdByRiders 66 = .ok (.iadd, 1) := by decide +kernel
theorem dX11_holdByRiders_67 : decode cX11_holdByRiders 67 = .ok (.ishl, 1) := by decide +kernel
theorem dX11_holdByRiders_68 : decode cX11_holdByRiders 68 = .ok (.ior, 1) := by decide +kernel
theorem dX11_holdByRiders_69 : decode cX11_holdByRiders 69 = .ok (.putfield 167, 3) := by decide +kernel
theorem dX11_holdByRiders_72 : decode cX11_holdByRiders 72 = .ok (.aload_n 0, 1) := by decide +kernel
theorem dX11_holdByRiders_73 : decode cX11_holdByRiders 73 = .ok (.aload_n 0, 1) := by decide +kernel
theorem dX11_holdByRiders_74 : decode cX11_holdByRiders 74 = .ok (.getfield 44, 3) := by decide +kernel
theorem dX11_holdByRiders_77 : decode cX11_holdByRiders 77 = .ok (.iload_n 2, 1) := by decide +kernel
theorem dX11_holdByRiders_78 : decode cX11_holdByRiders 78 = .ok (.iload_n 3, 1) := by decide +kernel
theorem dX11_holdByRiders_79 : decode cX11_holdByRiders 79 = .ok (.invokevirtual 162, 3) := by decide +kernel
theorem dX11_holdByRiders_82 : decode cX11_holdByRiders 82 = .ok (.pop, 1) := by decide +kernel
theorem dX11_holdByRiders_83 : decode cX11_holdByRiders 83 = .ok (.iconst 0, 1) := by decide +kernel
theorem dX11_holdByRiders_84 : decode cX11_holdByRiders 84 = .ok (.istore_n 2, 1) := by decide +kernel
theorem dX11_holdByRiders_85 : decode cX11_holdByRiders 85 = .ok (.goto (-79), 3) := by decide +kernel
theorem dX11_holdByRiders_88 : decode cX11_holdByRiders 88 = .ok (.return_, 1) := by decide +kernel
theorem dX11_askOf_0 : decode cX11_askOf 0 = .ok (.bipush (-9), 2) := by decide +kernel
theorem dX11_askOf_2 : decode cX11_askOf 2 = .ok (.istore_n 2, 1) := by decide +kernel
theorem dX11_askOf_3 : decode cX11_askOf 3 = .ok (.iconst 0, 1) := by decide +kernel
theorem dX11_askOf_4 : decode cX11_askOf 4 = .ok (.istore_n 3, 1) := by decide +kernel
theorem dX11_askOf_5 : decode cX11_askOf 5 = .ok (.iload_n 3, 1) := by decide +kernel
theorem dX11_askOf_6 : decode cX11_askOf 6 = .ok (.aload_n 0, 1) := by decide +kernel
theorem dX11_askOf_7 : decode cX11_askOf 7 = .ok (.getfield 67, 3) := by decide +kernel
theorem dX11_askOf_10 : decode cX11_askOf 10 = .ok (.if_icmp .ge 67, 3) := by decide +kernel
theorem dX11_askOf_13 : decode cX11_askOf 13 = .ok (.aload_n 0, 1) := by decide +kernel
theorem dX11_askOf_14 : decode cX11_askOf 14 = .ok (.getfield 167, 3) := by decide +kernel
theorem dX11_askOf_17 : decode cX11_askOf 17 = .ok (.iconst 4, 1) := by decide +kernel
theorem dX11_askOf_18 : decode cX11_askOf 18 = .ok (.iload_n 3, 1) := by decide +kernel
theorem dX11_askOf_19 : decode cX11_askOf 19 = .ok (.imul, 1) := by decide +kernel
theorem dX11_askOf_20 : decode cX11_askOf 20 = .ok (.iload_n 1, 1) := by decide +kernel
theorem dX11_askOf_21 : decode cX11_askOf 21 = .ok (.iadd, 1) := by decide +kernel
theorem dX11_askOf_22 : decode cX11_askOf 22 = .ok (.invokestatic 170, 3) := by decide +kernel
theorem dX11_askOf_25 : decode cX11_askOf 25 = .ok (.ifCond .ne 16, 3) := by decide +kernel
theorem dX11_askOf_28 : decode cX11_askOf 28 = .ok (.aload_n 0, 1) := by decide +kernel
theorem dX11_askOf_29 : decode cX11_askOf 29 = .ok (.iload_n 1, 1) := by decide +kernel
theorem dX11_askOf_30 : decode cX11_askOf 30 = .ok (.iload_n 3, 1) := by decide +kernel
theorem dX11_askOf_31 : decode cX11_askOf 31 = .ok (.invokevirtual 121, 3) := by decide +kernel
theorem dX11_askOf_34 : decode cX11_askOf 34 = .ok (.ifCond .eq 7, 3) := by decide +kernel
theorem dX11_askOf_37 : decode cX11_askOf 37 = .ok (.iconst 1, 1) := by decide +kernel
theorem dX11_askOf_38 : decode cX11_askOf 38 = .ok (.goto 4, 3) := by decide +kernel
theorem dX11_askOf_41 : decode cX11_askOf 41 = .ok (.iconst 0, 1) := by decide +kernel
theorem dX11_askOf_42 : decode cX11_askOf 42 = .ok (.istore 4, 2) := by decide +kernel
theorem dX11_askOf_44 : decode cX11_askOf 44 = .ok (.iload 4, 2) := by decide +kernel
theorem dX11_askOf_46 : decode cX11_askOf 46 = .ok (.ifCond .eq 23, 3) := by decide +kernel
theorem dX11_askOf_49 : decode cX11_askOf 49 = .ok (.iload_n 2, 1) := by decide +kernel
theorem dX11_askOf_50 : decode cX11_askOf 50 = .ok (.bipush (-9), 2) := by decide +kernel
theorem dX11_askOf_52 : decode cX11_askOf 52 = .ok (.if_icmp .eq 13, 3) := by decide +kernel
theorem dX11_askOf_55 : decode cX11_askOf 55 = .ok (.aload_n 0, 1) := by decide +kernel
theorem dX11_askOf_56 : decode cX11_askOf 56 = .ok (.iload_n 1, 1) := by decide +kernel
theorem dX11_askOf_57 : decode cX11_askOf 57 = .ok (.iload_n 3, 1) := by decide +kernel
theorem dX11_askOf_58 : decode cX11_askOf 58 = .ok (.iload_n 2, 1) := by decide +kernel
theorem dX11_askOf_59 : decode cX11_askOf 59 = .ok (.invokevirtual 117, 3) := by decide +kernel
theorem dX11_askOf_62 : decode cX11_askOf 62 = .ok (.ifCond .eq 7, 3) := by decide +kernel
theorem dX11_askOf_65 : decode cX11_askOf 65 = .ok (.iload_n 3, 1) := by decide +kernel
theorem dX11_askOf_66 : decode cX11_askOf 66 = .ok (.goto 4, 3) := by decide +kernel
theorem dX11_askOf_69 : decode cX11_askOf 69 = .ok (.iload_n 2, 1) := by decide +kernel
theorem dX11_askOf_70 : decode cX11_askOf 70 = .ok (.istore_n 2, 1) := by decide +kernel
theorem dX11_askOf_71 : decode cX11_askOf 71 = .ok (.iinc 3 1, 3) := by decide +kernel
theorem dX11_askOf_74 : decode cX11_askOf 74 = .ok (.goto (-69), 3) := by decide +kernel
theorem dX11_askOf_77 : decode cX11_askOf 77 = .ok (.iload_n 2, 1) := by decide +kernel
theorem dX11_askOf_78 : decode cX11_askOf 78 = .ok (.ireturn, 1) := by decide +kernel
theorem dX11_holdByHorses_0 : decode cX11_holdByHorses 0 = .ok (.aload_n 0, 1) := by decide +kernel
theorem dX11_holdByHorses_1 : decode cX11_holdByHorses 1 = .ok (.invokevirtual 173, 3) := by decide +kernel
theorem dX11_holdByHorses_4 : decode cX11_holdByHorses 4 = .ok (.iconst 0, 1) := by decide +kernel
theorem dX11_holdByHorses_5 : decode cX11_holdByHorses 5 = .ok (.istore_n 1, 1) := by decide +kernel
theorem dX11_holdByHorses_6 : decode cX11_holdByHorses 6 = .ok (.iload_n 1, 1) := by decide +kernel
theorem dX11_holdByHorses_7 : decode cX11_holdByHorses 7 = .ok (.aload_n 0, 1) := by decide +kernel
theorem dX11_holdByHorses_8 : decode cX11_holdByHorses 8 = .ok (.getfield 60, 3) := by decide +kernel
theorem dX11_holdByHorses_11 : decode cX11_holdByHorses 11 = .ok (.if_icmp .ge 90, 3) := by decide +kernel
theorem dX11_holdByHorses_14 : decode cX11_holdByHorses 14 = .ok (.aload_n 0, 1) := by decide +kernel
theorem dX11_holdByHorses_15 : decode cX11_holdByHorses 15 = .ok (.aload_n 0, 1) := by decide +kernel
theorem dX11_holdByHorses_16 : decode cX11_holdByHorses 16 = .ok (.getfield 44, 3) := by decide +kernel
theorem dX11_holdByHorses_19 : decode cX11_holdByHorses 19 = .ok (.iload_n 1, 1) := by decide +kernel
theorem dX11_holdByHorses_20 : decode cX11_holdByHorses 20 = .ok (.invokevirtual 128, 3) := by decide +kernel
theorem dX11_holdByHorses_23 : decode cX11_holdByHorses 23 = .ok (.ifCond .eq 8, 3) := by decide +kernel
theorem dX11_holdByHorses_26 : decode cX11_holdByHorses 26 = .ok (.bipush (-9), 2) := by decide +kernel
theorem dX11_holdByHorses_28 : decode cX11_holdByHorses 28 = .ok (.goto 8, 3) := by decide +kernel
theorem dX11_holdByHorses_31 : decode cX11_holdByHorses 31 = .ok (.aload_n 0, 1) := by decide +kernel
theorem dX11_holdByHorses_32 : decode cX11_holdByHorses 32 = .ok (.iload_n 1, 1) := by decide +kernel
theorem dX11_holdByHorses_33 : decode cX11_holdByHorses 33 = .ok (.invokevirtual 179, 3) := by decide +kernel
theorem dX11_holdByHorses_36 : decode cX11_holdByHorses 36 = .ok (.istore_n 2, 1) := by decide +kernel
theorem dX11_holdByHorses_37 : decode cX11_holdByHorses 37 = .ok (.iload_n 2, 1) := by decide +kernel
theorem dX11_holdByHorses_38 : decode cX11_holdByHorses 38 = .ok (.bipush (-9), 2) := by decide +kernel
theorem dX11_holdByHorses_40 : decode cX11_holdByHorses 40 = .ok (.if_icmp .ne 9, 3) := by decide +kernel
theorem dX11_holdByHorses_43 : decode cX11_holdByHorses 43 = .ok (.iinc 1 1, 3) := by decide +kernel
theorem dX11_holdByHorses_46 : decode cX11_holdByHorses 46 = .ok (.goto 52, 3) := by decide +kernel
theorem dX11_holdByHorses_49 : decode cX11_holdByHorses 49 = .ok (.aload_n 0, 1) := by decide +kernel
theorem dX11_holdByHorses_50 : decode cX11_holdByHorses 50 = .ok (.dup, 1) := by decide +kernel
theorem dX11_holdByHorses_51 : decode cX11_holdByHorses 51 = .ok (.getfield 167, 3) := by decide +kernel
theorem dX11_holdByHorses_54 : decode cX11_holdByHorses 54 = .ok (.iconst 1, 1) := by decide +kernel
theorem dX11_holdByHorses_55 : decode cX11_holdByHorses 55 = .ok (.iconst 4, 1) := by decide +kernel
theorem dX11_holdByHorses_56 : decode cX11_holdByHorses 56 = .ok (.iload_n 2, 1) := by decide +kernel
theorem dX11_holdByHorses_57 : decode cX11_holdByHorses 57 = .ok (.imul, 1) := by decide +kernel
theorem dX11_holdByHorses_58 : decode cX11_holdByHorses 58 = .ok (.iload_n 1, 1) := by decide +kernel
theorem dX11_holdByHorses_59 : decode cX11_holdByHorses 59 = .ok (.iadd, 1) := by decide +kernel
theorem dX11_holdByHorses_60 : decode cX11_holdByHorses 60 = .ok (.ishl, 1) := by decide +kernel
theorem dX11_holdByHorses_61 : decode cX11_holdByHorses 61 = .ok (.ior, 1) := by decide +kernel
theorem dX11_holdByHorses_62 : decode cX11_holdByHorses 62 = .ok (.putfield 167, 3) := by decide +kernel
theorem dX11_holdByHorses_65 : decode cX11_holdByHorses 65 = .ok (.aload_n 0, 1) := by decide +kernel
theorem dX11_holdByHorses_66 : decode cX11_holdByHorses 66 = .ok (.getfield 44, 3) := by decide +kernel
theorem dX11_holdByHorses_69 : decode cX11_holdByHorses 69 = .ok (.iload_n 2, 1) := by decide +kernel
theorem dX11_holdByHorses_70 : decode cX11_holdByHorses 70 = .ok (.aload_n 0, 1) := by decide +kernel
theorem dX11_holdByHorses_71 : decode cX11_holdByHorses 71 = .ok (.iload_n 2, 1) := by decide +kernel
theorem dX11_holdByHorses_72 : decode cX11_holdByHorses 72 = .ok (.iload_n 1, 1) := by decide +kernel
theorem dX11_holdByHorses_73 : decode cX11_holdByHorses 73 = .ok (.aload_n 0, 1) := by decide +kernel
theorem dX11_holdByHorses_74 : decode cX11_holdByHorses 74 = .ok (.getfield 44, 3) := by decide +kernel
theorem dX11_holdByHorses_77 : decode cX11_holdByHorses 77 = .ok (.iload_n 2, 1) := by decide +kernel
theorem dX11_holdByHorses_78 : decode cX11_holdByHorses 78 = .ok (.iaload, 1) := by decide +kernel
theorem dX11_holdByHorses_79 : decode cX11_holdByHorses 79 = .ok (.invokevirtual 125, 3) := by decide +kernel
theorem dX11_holdByHorses_82 : decode cX11_holdByHorses 82 = .ok (.ifCond .eq 7, 3) := by decide +kernel
theorem dX11_holdByHorses_85 : decode cX11_holdByHorses 85 = .ok (.iload_n 1, 1) := by decide +kernel
theorem dX11_holdByHorses_86 : decode cX11_holdByHorses 86 = .ok (.goto 9, 3) := by decide +kernel
theorem dX11_holdByHorses_89 : decode cX11_holdByHorses 89 = .ok (.aload_n 0, 1) := by decide +kernel
theorem dX11_holdByHorses_90 : decode cX11_holdByHorses 90 = .ok (.getfield 44, 3) := by decide +kernel
theorem dX11_holdByHorses_93 : decode cX11_holdByHorses 93 = .ok (.iload_n 2, 1) := by decide +kernel
theorem dX11_holdByHorses_94 : decode cX11_holdByHorses 94 = .ok (.iaload, 1) := by decide +kernel
theorem dX11_holdByHorses_95 : decode cX11_holdByHorses 95 = .ok (.iastore, 1) := by decide +kernel
theorem dX11_holdByHorses_96 : decode cX11_holdByHorses 96 = .ok (.iconst 0, 1) := by decide +kernel
theorem dX11_holdByHorses_97 : decode cX11_holdByHorses 97 = .ok (.istore_n 1, 1) := by decide +kernel
theorem dX11_holdByHorses_98 : decode cX11_holdByHorses 98 = .ok (.goto (-92), 3) := by decide +kernel
theorem dX11_holdByHorses_101 : decode cX11_holdByHorses 101 = .ok (.return_, 1) := by decide +kernel
theorem dX11_all_0 : decode cX11_all 0 = .ok (.iconst 1, 1) := by decide +kernel
theorem dX11_all_1 : decode cX11_all 1 = .ok (.aload_n 0, 1) := by decide +kernel
theorem dX11_all_2 : decode cX11_all 2 = .ok (.getfield 67, 3) := by decide +kernel
theorem dX11_all_5 : decode cX11_all 5 = .ok (.ishl, 1) := by decide +kernel
theorem dX11_all_6 : decode cX11_all 6 = .ok (.iconst 1, 1) := by decide +kernel
theorem dX11_all_7 : decode cX11_all 7 = .ok (.isub, 1) := by decide +kernel
theorem dX11_all_8 : decode cX11_all 8 = .ok (.ireturn, 1) := by decide +kernel
theorem dX11_held_0 : decode cX11_held 0 = .ok (.aload_n 0, 1) := by decide +kernel
theorem dX11_held_1 : decode cX11_held 1 = .ok (.iconst 0, 1) := by decide +kernel
theorem dX11_held_2 : decode cX11_held 2 = .ok (.putfield 56, 3) := by decide +kernel
theorem dX11_held_5 : decode cX11_held 5 = .ok (.aload_n 0, 1) := by decide +kernel
theorem dX11_held_6 : decode cX11_held 6 = .ok (.iload_n 1, 1) := by decide +kernel
theorem dX11_held_7 : decode cX11_held 7 = .ok (.invokevirtual 153, 3) := by decide +kernel
theorem dX11_held_10 : decode cX11_held 10 = .ok (.ifCond .eq 5, 3) := by decide +kernel
theorem dX11_held_13 : decode cX11_held 13 = .ok (.iconst (-1), 1) := by decide +kernel
theorem dX11_held_14 : decode cX11_held 14 = .ok (.ireturn, 1) := by decide +kernel
theorem dX11_held_15 : decode cX11_held 15 = .ok (.iload_n 2, 1) := by decide +kernel
theorem dX11_held_16 : decode cX11_held 16 = .ok (.ifCond .eq 10, 3) := by decide +kernel
theorem dX11_held_19 : decode cX11_held 19 = .ok (.aload_n 0, 1) := by decide +kernel
theorem dX11_held_20 : decode cX11_held 20 = .ok (.invokevirtual 182, 3) := by decide +kernel
theorem dX11_held_23 : decode cX11_held 23 = .ok (.goto 11, 3) := by decide +kernel
theorem dX11_held_26 : decode cX11_held 26 = .ok (.aload_n 0, 1) := by decide +kernel
theorem dX11_held_27 : decode cX11_held 27 = .ok (.aload_n 0, 1) := by decide +kernel
theorem dX11_held_28 : decode cX11_held 28 = .ok (.invokevirtual 185, 3) := by decide +kernel
theorem dX11_held_31 : decode cX11_held 31 = .ok (.invokevirtual 188, 3) := by decide +kernel
theorem dX11_held_34 : decode cX11_held 34 = .ok (.aload_n 0, 1) := by decide +kernel
theorem dX11_held_35 : decode cX11_held 35 = .ok (.getfield 44, 3) := by decide +kernel
theorem dX11_held_38 : decode cX11_held 38 = .ok (.iload_n 1, 1) := by decide +kernel
theorem dX11_held_39 : decode cX11_held 39 = .ok (.iaload, 1) := by decide +kernel
theorem dX11_held_40 : decode cX11_held 40 = .ok (.ireturn, 1) := by decide +kernel
theorem dX11_nextWay_0 : decode cX11_nextWay 0 = .ok (.aload_n 0, 1) := by decide +kernel
theorem dX11_nextWay_1 : decode cX11_nextWay 1 = .ok (.getfield 67, 3) := by decide +kernel
theorem dX11_nextWay_4 : decode cX11_nextWay 4 = .ok (.iconst 1, 1) := by decide +kernel
theorem dX11_nextWay_5 : decode cX11_nextWay 5 = .ok (.isub, 1) := by decide +kernel
theorem dX11_nextWay_6 : decode cX11_nextWay 6 = .ok (.istore_n 1, 1) := by decide +kernel
theorem dX11_nextWay_7 : decode cX11_nextWay 7 = .ok (.iload_n 1, 1) := by decide +kernel
theorem dX11_nextWay_8 : decode cX11_nextWay 8 = .ok (.ifCond .lt 75, 3) := by decide +kernel
theorem dX11_nextWay_11 : decode cX11_nextWay 11 = .ok (.aload_n 0, 1) := by decide +kernel
theorem dX11_nextWay_12 : decode cX11_nextWay 12 = .ok (.getfield 47, 3) := by decide +kernel
theorem dX11_nextWay_15 : decode cX11_nextWay 15 = .ok (.iload_n 1, 1) := by decide +kernel
theorem dX11_nextWay_16 : decode cX11_nextWay 16 = .ok (.iaload, 1) := by decide +kernel
theorem dX11_nextWay_17 : decode cX11_nextWay 17 = .ok (.bipush (-9), 2) := by decide +kernel
theorem dX11_nextWay_19 : decode cX11_nextWay 19 = .ok (.if_icmp .eq 39, 3) := by decide +kernel
theorem dX11_nextWay_22 : decode cX11_nextWay 22 = .ok (.aload_n 0, 1) := by decide +kernel
theorem dX11_nextWay_23 : decode cX11_nextWay 23 = .ok (.getfield 47, 3) := by decide +kernel
theorem dX11_nextWay_26 : decode cX11_nextWay 26 = .ok (.iload_n 1, 1) := by decide +kernel
theorem dX11_nextWay_27 : decode cX11_nextWay 27 = .ok (.aload_n 0, 1) := by decide +kernel
theorem dX11_nextWay_28 : decode cX11_nextWay 28 = .ok (.getfield 47, 3) := by decide +kernel
theorem dX11_nextWay_31 : decode cX11_nextWay 31 = .ok (.iload_n 1, 1) := by decide +kernel
theorem dX11_nextWay_32 : decode cX11_nextWay 32 = .ok (.iaload, 1) := by decide +kernel
theorem dX11_nextWay_33 : decode cX11_nextWay 33 = .ok (.aload_n 0, 1) := by decide +kernel
theorem dX11_nextWay_34 : decode cX11_nextWay 34 = .ok (.getfield 60, 3) := by decide +kernel
theorem dX11_nextWay_37 : decode cX11_nextWay 37 = .ok (.iconst 1, 1) := by decide +kernel
theorem dX11_nextWay_38 : decode cX11_nextWay 38 = .ok (.isub, 1) := by decide +kernel
theorem dX11_nextWay_39 : decode cX11_nextWay 39 = .ok (.if_icmp .ne 8, 3) := by decide +kernel
theorem dX11_nextWay_42 : decode cX11_nextWay 42 = .ok (.bipush (-9), 2) := by decide +kernel
theorem dX11_nextWay_44 : decode cX11_nextWay 44 = .ok (.goto 11, 3) := by decide +kernel
theorem dX11_nextWay_47 : decode cX11_nextWay 47 = .ok (.aload_n 0, 1) := by decide +kernel
theorem dX11_nextWay_48 : decode cX11_nextWay 48 = .ok (.getfield 47, 3) := by decide +kernel
theorem dX11_nextWay_51 : decode cX11_nextWay 51 = .ok (.iload_n 1, 1) := by decide +kernel
theorem dX11_nextWay_52 : decode cX11_nextWay 52 = .ok (.iaload, 1) := by decide +kernel
theorem dX11_nextWay_53 : decode cX11_nextWay 53 = .ok (.iconst 1, 1) := by decide +kernel
theorem dX11_nextWay_54 : decode cX11_nextWay 54 = .ok (.iadd, 1) := by decide +kernel
theorem dX11_nextWay_55 : decode cX11_nextWay 55 = .ok (.iastore, 1) := by decide +kernel
theorem dX11_nextWay_56 : decode cX11_nextWay 56 = .ok (.iconst 1, 1) := by decide +kernel
theorem dX11_nextWay_57 : decode cX11_nextWay 57 = .ok (.ireturn, 1) := by decide +kernel
theorem dX11_nextWay_58 : decode cX11_nextWay 58 = .ok (.aload_n 0, 1) := by decide +kernel
theorem dX11_nextWay_59 : decode cX11_nextWay 59 = .ok (.getfield 47, 3) := by decide +kernel
theorem dX11_nextWay_62 : decode cX11_nextWay 62 = .ok (.iload_n 1, 1) := by decide +kernel
theorem dX11_nextWay_63 : decode cX11_nextWay 63 = .ok (.aload_n 0, 1) := by decide +kernel
theorem dX11_nextWay_64 : decode cX11_nextWay 64 = .ok (.getfield 60, 3) := by decide +kernel
theorem dX11_nextWay_67 : decode cX11_nextWay 67 = .ok (.ifCond .ne 8, 3) := by decide +kernel
theorem dX11_nextWay_70 : decode cX11_nextWay 70 = .ok (.bipush (-9), 2) := by decide +kernel
theorem dX11_nextWay_72 : decode cX11_nextWay 72 = .ok (.goto 4, 3) := by decide +kernel
theorem dX11_nextWay_75 : decode cX11_nextWay 75 = .ok (.iconst 0, 1) := by decide +kernel
theorem dX11_nextWay_76 : decode cX11_nextWay 76 = .ok (.iastore, 1) := by decide +kernel
theorem dX11_nextWay_77 : decode cX11_nextWay 77 = .ok (.iinc 1 (-1), 3) := by decide +kernel
theorem dX11_nextWay_80 : decode cX11_nextWay 80 = .ok (.goto (-73), 3) := by decide +kernel
theorem dX11_nextWay_83 : decode cX11_nextWay 83 = .ok (.iconst 0, 1) := by decide +kernel
theorem dX11_nextWay_84 : decode cX11_nextWay 84 = .ok (.ireturn, 1) := by decide +kernel
theorem dX11_firstWay_0 : decode cX11_firstWay 0 = .ok (.iconst 0, 1) := by decide +kernel
theorem dX11_firstWay_1 : decode cX11_firstWay 1 = .ok (.istore_n 1, 1) := by decide +kernel
theorem dX11_firstWay_2 : decode cX11_firstWay 2 = .ok (.iload_n 1, 1) := by decide +kernel
theorem dX11_firstWay_3 : decode cX11_firstWay 3 = .ok (.iconst 5, 1) := by decide +kernel
theorem dX11_firstWay_4 : decode cX11_firstWay 4 = .ok (.if_icmp .ge 28, 3) := by decide +kernel
theorem dX11_firstWay_7 : decode cX11_firstWay 7 = .ok (.aload_n 0, 1) := by decide +kernel
theorem dX11_firstWay_8 : decode cX11_firstWay 8 = .ok (.getfield 47, 3) := by decide +kernel
theorem dX11_firstWay_11 : decode cX11_firstWay 11 = .ok (.iload_n 1, 1) := by decide +kernel
theorem dX11_firstWay_12 : decode cX11_firstWay 12 = .ok (.aload_n 0, 1) := by decide +kernel
theorem dX11_firstWay_13 : decode cX11_firstWay 13 = .ok (.getfield 60, 3) := by decide +kernel
theorem dX11_firstWay_16 : decode cX11_firstWay 16 = .ok (.ifCond .ne 8, 3) := by decide +kernel
theorem dX11_firstWay_19 : decode cX11_firstWay 19 = .ok (.bipush (-9), 2) := by decide +kernel
theorem dX11_firstWay_21 : decode cX11_firstWay 21 = .ok (.goto 4, 3) := by decide +kernel
theorem dX11_firstWay_24 : decode cX11_firstWay 24 = .ok (.iconst 0, 1) := by decide +kernel
theorem dX11_firstWay_25 : decode cX11_firstWay 25 = .ok (.iastore, 1) := by decide +kernel
theorem dX11_firstWay_26 : decode cX11_firstWay 26 = .ok (.iinc 1 1, 3) := by decide +kernel
theorem dX11_firstWay_29 : decode cX11_firstWay 29 = .ok (.goto (-27), 3) := by decide +kernel
theorem dX11_firstWay_32 : decode cX11_firstWay 32 = .ok (.return_, 1) := by decide +kernel
theorem dX11_isWay_0 : decode cX11_isWay 0 = .ok (.iconst 1, 1) := by decide +kernel
theorem dX11_isWay_1 : decode cX11_isWay 1 = .ok (.istore_n 1, 1) := by decide +kernel
theorem dX11_isWay_2 : decode cX11_isWay 2 = .ok (.iconst 0, 1) := by decide +kernel
theorem dX11_isWay_3 : decode cX11_isWay 3 = .ok (.istore_n 2, 1) := by decide +kernel
theorem dX11_isWay_4 : decode cX11_isWay 4 = .ok (.iload_n 2, 1) := by decide +kernel
theorem dX11_isWay_5 : decode cX11_isWay 5 = .ok (.aload_n 0, 1) := by decide +kernel
theorem dX11_isWay_6 : decode cX11_isWay 6 = .ok (.getfield 60, 3) := by decide +kernel
theorem dX11_isWay_9 : decode cX11_isWay 9 = .ok (.if_icmp .ge 43, 3) := by decide +kernel
theorem dX11_isWay_12 : decode cX11_isWay 12 = .ok (.iload_n 1, 1) := by decide +kernel
theorem dX11_isWay_13 : decode cX11_isWay 13 = .ok (.ifCond .eq 39, 3) := by decide +kernel
theorem dX11_isWay_16 : decode cX11_isWay 16 = .ok (.aload_n 0, 1) := by decide +kernel
theorem dX11_isWay_17 : decode cX11_isWay 17 = .ok (.aload_n 0, 1) := by decide +kernel
theorem dX11_isWay_18 : decode cX11_isWay 18 = .ok (.getfield 47, 3) := by decide +kernel
theorem dX11_isWay_21 : decode cX11_isWay 21 = .ok (.iload_n 2, 1) := by decide +kernel
theorem dX11_isWay_22 : decode cX11_isWay 22 = .ok (.invokevirtual 109, 3) := by decide +kernel
theorem dX11_isWay_25 : decode cX11_isWay 25 = .ok (.invokestatic 113, 3) := by decide +kernel
theorem dX11_isWay_28 : decode cX11_isWay 28 = .ok (.aload_n 0, 1) := by decide +kernel
theorem dX11_isWay_29 : decode cX11_isWay 29 = .ok (.getfield 13, 3) := by decide +kernel
theorem dX11_isWay_32 : decode cX11_isWay 32 = .ok (.bipush 7, 2) := by decide +kernel
theorem dX11_isWay_34 : decode cX11_isWay 34 = .ok (.iload_n 2, 1) := by decide +kernel
theorem dX11_isWay_35 : decode cX11_isWay 35 = .ok (.imul, 1) := by decide +kernel
theorem dX11_isWay_36 : decode cX11_isWay 36 = .ok (.iaload, 1) := by decide +kernel
theorem dX11_isWay_37 : decode cX11_isWay 37 = .ok (.if_icmp .gt 7, 3) := by decide +kernel
theorem dX11_isWay_40 : decode cX11_isWay 40 = .ok (.iconst 1, 1) := by decide +kernel
theorem dX11_isWay_41 : decode cX11_isWay 41 = .ok (.goto 4, 3) := by decide +kernel
theorem dX11_isWay_44 : decode cX11_isWay 44 = .ok (.iconst 0, 1) := by decide +kernel
theorem dX11_isWay_45 : decode cX11_isWay 45 = .ok (.istore_n 1, 1) := by decide +kernel
theorem dX11_isWay_46 : decode cX11_isWay 46 = .ok (.iinc 2 1, 3) := by decide +kernel
theorem dX11_isWay_49 : decode cX11_isWay 49 = .ok (.goto (-45), 3) := by decide +kernel
theorem dX11_isWay_52 : decode cX11_isWay 52 = .ok (.iload_n 1, 1) := by decide +kernel
theorem dX11_isWay_53 : decode cX11_isWay 53 = .ok (.ireturn, 1) := by decide +kernel
theorem dX11_isHeld_0 : decode cX11_isHeld 0 = .ok (.aload_n 0, 1) := by decide +kernel
theorem dX11_isHeld_1 : decode cX11_isHeld 1 = .ok (.invokevirtual 192, 3) := by decide +kernel
theorem dX11_isHeld_4 : decode cX11_isHeld 4 = .ok (.istore_n 1, 1) := by decide +kernel
theorem dX11_isHeld_5 : decode cX11_isHeld 5 = .ok (.iconst 0, 1) := by decide +kernel
theorem dX11_isHeld_6 : decode cX11_isHeld 6 = .ok (.istore_n 2, 1) := by decide +kernel
theorem dX11_isHeld_7 : decode cX11_isHeld 7 = .ok (.iload_n 2, 1) := by decide +kernel
theorem dX11_isHeld_8 : decode cX11_isHeld 8 = .ok (.aload_n 0, 1) := by decide +kernel
theorem dX11_isHeld_9 : decode cX11_isHeld 9 = .ok (.getfield 67, 3) := by decide +kernel
theorem dX11_isHeld_12 : decode cX11_isHeld 12 = .ok (.if_icmp .ge 44, 3) := by decide +kernel
theorem dX11_isHeld_15 : decode cX11_isHeld 15 = .ok (.iload_n 1, 1) := by decide +kernel
theorem dX11_isHeld_16 : decode cX11_isHeld 16 = .ok (.ifCond .eq 40, 3) := by decide +kernel
theorem dX11_isHeld_19 : decode cX11_isHeld 19 = .ok (.aload_n 0, 1) := by decide +kernel
theorem dX11_isHeld_20 : decode cX11_isHeld 20 = .ok (.getfield 47, 3) := by decide +kernel
theorem dX11_isHeld_23 : decode cX11_isHeld 23 = .ok (.iload_n 2, 1) := by decide +kernel
theorem dX11_isHeld_24 : decode cX11_isHeld 24 = .ok (.iaload, 1) := by decide +kernel
theorem dX11_isHeld_25 : decode cX11_isHeld 25 = .ok (.bipush (-9), 2) := by decide +kernel
theorem dX11_isHeld_27 : decode cX11_isHeld 27 = .ok (.if_icmp .eq 17, 3) := by decide +kernel
theorem dX11_isHeld_30 : decode cX11_isHeld 30 = .ok (.aload_n 0, 1) := by decide +kernel
theorem dX11_isHeld_31 : decode cX11_isHeld 31 = .ok (.aload_n 0, 1) := by decide +kernel
theorem dX11_isHeld_32 : decode cX11_isHeld 32 = .ok (.getfield 47, 3) := by decide +kernel
theorem dX11_isHeld_35 : decode cX11_isHeld 35 = .ok (.iload_n 2, 1) := by decide +kernel
theorem dX11_isHeld_36 : decode cX11_isHeld 36 = .ok (.iaload, 1) := by decide +kernel
theorem dX11_isHeld_37 : decode cX11_isHeld 37 = .ok (.iload_n 2, 1) := by decide +kernel
theorem dX11_isHeld_38 : decode cX11_isHeld 38 = .ok (.invokevirtual 121, 3) := by decide +kernel
theorem dX11_isHeld_41 : decode cX11_isHeld 41 = .ok (.ifCond .eq 7, 3) := by decide +kernel
theorem dX11_isHeld_44 : decode cX11_isHeld 44 = .ok (.iconst 1, 1) := by decide +kernel
theorem dX11_isHeld_45 : decode cX11_isHeld 45 = .ok (.goto 4, 3) := by decide +kernel
theorem dX11_isHeld_48 : decode cX11_isHeld 48 = .ok (.iconst 0, 1) := by decide +kernel
theorem dX11_isHeld_49 : decode cX11_isHeld 49 = .ok (.istore_n 1, 1) := by decide +kernel
theorem dX11_isHeld_50 : decode cX11_isHeld 50 = .ok (.iinc 2 1, 3) := by decide +kernel
theorem dX11_isHeld_53 : decode cX11_isHeld 53 = .ok (.goto (-46), 3) := by decide +kernel
theorem dX11_isHeld_56 : decode cX11_isHeld 56 = .ok (.iload_n 1, 1) := by decide +kernel
theorem dX11_isHeld_57 : decode cX11_isHeld 57 = .ok (.ifCond .eq 18, 3) := by decide +kernel
theorem dX11_isHeld_60 : decode cX11_isHeld 60 = .ok (.aload_n 0, 1) := by decide +kernel
theorem dX11_isHeld_61 : decode cX11_isHeld 61 = .ok (.aload_n 0, 1) := by decide +kernel
theorem dX11_isHeld_62 : decode cX11_isHeld 62 = .ok (.getfield 47, 3) := by decide +kernel
theorem dX11_isHeld_65 : decode cX11_isHeld 65 = .ok (.invokevirtual 146, 3) := by decide +kernel
theorem dX11_isHeld_68 : decode cX11_isHeld 68 = .ok (.ifCond .ne 7, 3) := by decide +kernel
theorem dX11_isHeld_71 : decode cX11_isHeld 71 = .ok (.iconst 1, 1) := by decide +kernel
theorem dX11_isHeld_72 : decode cX11_isHeld 72 = .ok (.goto 4, 3) := by decide +kernel
theorem dX11_isHeld_75 : decode cX11_isHeld 75 = .ok (.iconst 0, 1) := by decide +kernel
theorem dX11_isHeld_76 : decode cX11_isHeld 76 = .ok (.ireturn, 1) := by decide +kernel
theorem dX11_findHolds_0 : decode cX11_findHolds 0 = .ok (.aload_n 0, 1) := by decide +kernel
theorem dX11_findHolds_1 : decode cX11_findHolds 1 = .ok (.iconst 0, 1) := by decide +kernel
theorem dX11_findHolds_2 : decode cX11_findHolds 2 = .ok (.putfield 195, 3) := by decide +kernel
theorem dX11_findHolds_5 : decode cX11_findHolds 5 = .ok (.aload_n 0, 1) := by decide +kernel
theorem dX11_findHolds_6 : decode cX11_findHolds 6 = .ok (.invokevirtual 198, 3) := by decide +kernel
theorem dX11_findHolds_9 : decode cX11_findHolds 9 = .ok (.iconst 1, 1) := by decide +kernel
theorem dX11_findHolds_10 : decode cX11_findHolds 10 = .ok (.istore_n 1, 1) := by decide +kernel
theorem dX11_findHolds_11 : decode cX11_findHolds 11 = .ok (.iload_n 1, 1) := by decide +kernel
theorem dX11_findHolds_12 : decode cX11_findHolds 12 = .ok (.ifCond .eq 96, 3) := by decide +kernel
theorem dX11_findHolds_15 : decode cX11_findHolds 15 = .ok (.aload_n 0, 1) := by decide +kernel
theorem dX11_findHolds_16 : decode cX11_findHolds 16 = .ok (.invokevirtual 201, 3) := by decide +kernel
theorem dX11_findHolds_19 : decode cX11_findHolds 19 = .ok (.ifCond .eq 81, 3) := by decide +kernel
theorem dX11_findHolds_22 : decode cX11_findHolds 22 = .ok (.iconst 0, 1) := by decide +kernel
theorem dX11_findHolds_23 : decode cX11_findHolds 23 = .ok (.istore_n 2, 1) := by decide +kernel
theorem dX11_findHolds_24 : decode cX11_findHolds 24 = .ok (.iload_n 2, 1) := by decide +kernel
theorem dX11_findHolds_25 : decode cX11_findHolds 25 = .ok (.aload_n 0, 1) := by decide +kernel
theorem dX11_findHolds_26 : decode cX11_findHolds 26 = .ok (.getfield 67, 3) := by decide +kernel
theorem dX11_findHolds_29 : decode cX11_findHolds 29 = .ok (.if_icmp .ge 61, 3) := by decide +kernel
theorem dX11_findHolds_32 : decode cX11_findHolds 32 = .ok (.aload_n 0, 1) := by decide +kernel
theorem dX11_findHolds_33 : decode cX11_findHolds 33 = .ok (.getfield 47, 3) := by decide +kernel
theorem dX11_findHolds_36 : decode cX11_findHolds 36 = .ok (.iload_n 2, 1) := by decide +kernel
theorem dX11_findHolds_37 : decode cX11_findHolds 37 = .ok (.iaload, 1) := by decide +kernel
theorem dX11_findHolds_38 : decode cX11_findHolds 38 = .ok (.bipush (-9), 2) := by decide +kernel
theorem dX11_findHolds_40 : decode cX11_findHolds 40 = .ok (.if_icmp .ne 8, 3) := by decide +kernel
theorem dX11_findHolds_43 : decode cX11_findHolds 43 = .ok (.bipush 9, 2) := by decide +kernel
theorem dX11_findHolds_45 : decode cX11_findHolds 45 = .ok (.goto 9, 3) := by decide +kernel
theorem dX11_findHolds_48 : decode cX11_findHolds 48 = .ok (.aload_n 0, 1) := by decide +kernel
theorem dX11_findHolds_49 : decode cX11_findHolds 49 = .ok (.getfield 47, 3) := by decide +kernel
theorem dX11_findHolds_52 : decode cX11_findHolds 52 = .ok (.iload_n 2, 1) := by decide +kernel
theorem dX11_findHolds_53 : decode cX11_findHolds 53 = .ok (.iaload, 1) := by decide +kernel
theorem dX11_findHolds_54 : decode cX11_findHolds 54 = .ok (.istore_n 3, 1) := by decide +kernel
theorem dX11_findHolds_55 : decode cX11_findHolds 55 = .ok (.aload_n 0, 1) := by decide +kernel
theorem dX11_findHolds_56 : decode cX11_findHolds 56 = .ok (.getfield 50, 3) := by decide +kernel
theorem dX11_findHolds_59 : decode cX11_findHolds 59 = .ok (.iload_n 2, 1) := by decide +kernel
theorem dX11_findHolds_60 : decode cX11_findHolds 60 = .ok (.aload_n 0, 1) := by decide +kernel
theorem dX11_findHolds_61 : decode cX11_findHolds 61 = .ok (.getfield 195, 3) := by decide +kernel
theorem dX11_findHolds_64 : decode cX11_findHolds 64 = .ok (.ifCond .eq 13, 3) := by decide +kernel
theorem dX11_findHolds_67 : decode cX11_findHolds 67 = .ok (.aload_n 0, 1) := by decide +kernel
theorem dX11_findHolds_68 : decode cX11_findHolds 68 = .ok (.getfield 50, 3) := by decide +kernel
theorem dX11_findHolds_71 : decode cX11_findHolds 71 = .ok (.iload_n 2, 1) := by decide +kernel
theorem dX11_findHolds_72 : decode cX11_findHolds 72 = .ok (.iaload, 1) := by decide +kernel
theorem dX11_findHolds_73 : decode cX11_findHolds 73 = .ok (.iload_n 3, 1) := by decide +kernel
theorem dX11_findHolds_74 : decode cX11_findHolds 74 = .ok (.if_icmp .ne 7, 3) := by decide +kernel
theorem dX11_findHolds_77 : decode cX11_findHolds 77 = .ok (.iload_n 3, 1) := by decide +kernel
theorem dX11_findHolds_78 : decode cX11_findHolds 78 = .ok (.goto 5, 3) := by decide +kernel
theorem dX11_findHolds_81 : decode cX11_findHolds 81 = .ok (.bipush (-9), 2) := by decide +kernel
theorem dX11_findHolds_83 : decode cX11_findHolds 83 = .ok (.iastore, 1) := by decide +kernel
theorem dX11_findHolds_84 : decode cX11_findHolds 84 = .ok (.iinc 2 1, 3) := by decide +kernel
theorem dX11_findHolds_87 : decode cX11_findHolds 87 = .ok (.goto (-63), 3) := by decide +kernel
theorem dX11_findHolds_90 : decode cX11_findHolds 90 = .ok (.aload_n 0, 1) := by decide +kernel
theorem dX11_findHolds_91 : decode cX11_findHolds 91 = .ok (.dup, 1) := by decide +kernel
theorem dX11_findHolds_92 : decode cX11_findHolds 92 = .ok (.getfield 195, 3) := by decide +kernel
theorem dX11_findHolds_95 : decode cX11_findHolds 95 = .ok (.iconst 1, 1) := by decide +kernel
theorem dX11_findHolds_96 : decode cX11_findHolds 96 = .ok (.iadd, 1) := by decide +kernel
theorem dX11_findHolds_97 : decode cX11_findHolds 97 = .ok (.putfield 195, 3) := by decide +kernel
theorem dX11_findHolds_100 : decode cX11_findHolds 100 = .ok (.aload_n 0, 1) := by decide +kernel
theorem dX11_findHolds_101 : decode cX11_findHolds 101 = .ok (.invokevirtual 204, 3) := by decide +kernel
theorem dX11_findHolds_104 : decode cX11_findHolds 104 = .ok (.istore_n 1, 1) := by decide +kernel
theorem dX11_findHolds_105 : decode cX11_findHolds 105 = .ok (.goto (-94), 3) := by decide +kernel
theorem dX11_findHolds_108 : decode cX11_findHolds 108 = .ok (.return_, 1) := by decide +kernel
theorem dX11_holds_0 : decode cX11_holds 0 = .ok (.aload_n 0, 1) := by decide +kernel
theorem dX11_holds_1 : decode cX11_holds 1 = .ok (.iconst 0, 1) := by decide +kernel
theorem dX11_holds_2 : decode cX11_holds 2 = .ok (.putfield 56, 3) := by decide +kernel
theorem dX11_holds_5 : decode cX11_holds 5 = .ok (.aload_n 0, 1) := by decide +kernel
theorem dX11_holds_6 : decode cX11_holds 6 = .ok (.invokevirtual 207, 3) := by decide +kernel
theorem dX11_holds_9 : decode cX11_holds 9 = .ok (.aload_n 0, 1) := by decide +kernel
theorem dX11_holds_10 : decode cX11_holds 10 = .ok (.getfield 195, 3) := by decide +kernel
theorem dX11_holds_13 : decode cX11_holds 13 = .ok (.ireturn, 1) := by decide +kernel
theorem dX11_sure_0 : decode cX11_sure 0 = .ok (.aload_n 0, 1) := by decide +kernel
theorem dX11_sure_1 : decode cX11_sure 1 = .ok (.iconst 0, 1) := by decide +kernel
theorem dX11_sure_2 : decode cX11_sure 2 = .ok (.putfield 56, 3) := by decide +kernel
theorem dX11_sure_5 : decode cX11_sure 5 = .ok (.aload_n 0, 1) := by decide +kernel
theorem dX11_sure_6 : decode cX11_sure 6 = .ok (.iload_n 1, 1) := by decide +kernel
theorem dX11_sure_7 : decode cX11_sure 7 = .ok (.invokevirtual 153, 3) := by decide +kernel
theorem dX11_sure_10 : decode cX11_sure 10 = .ok (.ifCond .eq 5, 3) := by decide +kernel
theorem dX11_sure_13 : decode cX11_sure 13 = .ok (.iconst (-1), 1) := by decide +kernel
theorem dX11_sure_14 : decode cX11_sure 14 = .ok (.ireturn, 1) := by decide +kernel
theorem dX11_sure_15 : decode cX11_sure 15 = .ok (.aload_n 0, 1) := by decide +kernel
theorem dX11_sure_16 : decode cX11_sure 16 = .ok (.invokevirtual 207, 3) := by decide +kernel
theorem dX11_sure_19 : decode cX11_sure 19 = .ok (.aload_n 0, 1) := by decide +kernel
theorem dX11_sure_20 : decode cX11_sure 20 = .ok (.getfield 50, 3) := by decide +kernel
theorem dX11_sure_23 : decode cX11_sure 23 = .ok (.iload_n 1, 1) := by decide +kernel
theorem dX11_sure_24 : decode cX11_sure 24 = .ok (.iaload, 1) := by decide +kernel
theorem dX11_sure_25 : decode cX11_sure 25 = .ok (.ireturn, 1) := by decide +kernel
theorem dX11_forged_0 : decode cX11_forged 0 = .ok (.aload_n 0, 1) := by decide +kernel
theorem dX11_forged_1 : decode cX11_forged 1 = .ok (.iconst 0, 1) := by decide +kernel
theorem dX11_forged_2 : decode cX11_forged 2 = .ok (.putfield 56, 3) := by decide +kernel
theorem dX11_forged_5 : decode cX11_forged 5 = .ok (.aload_n 0, 1) := by decide +kernel
theorem dX11_forged_6 : decode cX11_forged 6 = .ok (.iload_n 1, 1) := by decide +kernel
theorem dX11_forged_7 : decode cX11_forged 7 = .ok (.invokevirtual 153, 3) := by decide +kernel
theorem dX11_forged_10 : decode cX11_forged 10 = .ok (.ifCond .ne 11, 3) := by decide +kernel
theorem dX11_forged_13 : decode cX11_forged 13 = .ok (.aload_n 0, 1) := by decide +kernel
theorem dX11_forged_14 : decode cX11_forged 14 = .ok (.iload_n 2, 1) := by decide +kernel
theorem dX11_forged_15 : decode cX11_forged 15 = .ok (.invokevirtual 149, 3) := by decide +kernel
theorem dX11_forged_18 : decode cX11_forged 18 = .ok (.ifCond .eq 5, 3) := by decide +kernel
theorem dX11_forged_21 : decode cX11_forged 21 = .ok (.iconst (-1), 1) := by decide +kernel
theorem dX11_forged_22 : decode cX11_forged 22 = .ok (.ireturn, 1) := by decide +kernel
theorem dX11_forged_23 : decode cX11_forged 23 = .ok (.iload_n 3, 1) := by decide +kernel
theorem dX11_forged_24 : decode cX11_forged 24 = .ok (.i2l, 1) := by decide +kernel
theorem dX11_forged_25 : decode cX11_forged 25 = .ok (.lconst 0, 1) := by decide +kernel
theorem dX11_forged_26 : decode cX11_forged 26 = .ok (.lconst 1, 1) := by decide +kernel
theorem dX11_forged_27 : decode cX11_forged 27 = .ok (.invokestatic 63, 3) := by decide +kernel
theorem dX11_forged_30 : decode cX11_forged 30 = .ok (.ifCond .ne 6, 3) := by decide +kernel
theorem dX11_forged_33 : decode cX11_forged 33 = .ok (.bipush (-2), 2) := by decide +kernel
theorem dX11_forged_35 : decode cX11_forged 35 = .ok (.ireturn, 1) := by decide +kernel
theorem dX11_forged_36 : decode cX11_forged 36 = .ok (.sipush 9999, 3) := by decide +kernel
theorem dX11_forged_39 : decode cX11_forged 39 = .ok (.istore 4, 2) := by decide +kernel
theorem dX11_forged_41 : decode cX11_forged 41 = .ok (.bipush (-9), 2) := by decide +kernel
theorem dX11_forged_43 : decode cX11_forged 43 = .ok (.istore 5, 2) := by decide +kernel
theorem dX11_forged_45 : decode cX11_forged 45 = .ok (.iconst 0, 1) := by decide +kernel
theorem dX11_forged_46 : decode cX11_forged 46 = .ok (.istore 6, 2) := by decide +kernel
theorem dX11_forged_48 : decode cX11_forged 48 = .ok (.iload 6, 2) := by decide +kernel
theorem dX11_forged_50 : decode cX11_forged 50 = .ok (.sipush 1000, 3) := by decide +kernel
theorem dX11_forged_53 : decode cX11_forged 53 = .ok (.if_icmp .ge 213, 3) := by decide +kernel
theorem dX11_forged_56 : decode cX11_forged 56 = .ok (.iload 6, 2) := by decide +kernel
theorem dX11_forged_58 : decode cX11_forged 58 = .ok (.bipush 100, 2) := by decide +kernel
theorem dX11_forged_60 : decode cX11_forged 60 = .ok (.idiv, 1) := by decide +kernel
theorem dX11_forged_61 : decode cX11_forged 61 = .ok (.istore 7, 2) := by decide +kernel
theorem dX11_forged_63 : decode cX11_forged 63 = .ok (.iload 6, 2) := by decide +kernel
theorem dX11_forged_65 : decode cX11_forged 65 = .ok (.bipush 10, 2) := by decide +kernel
theorem dX11_forged_67 : decode cX11_forged 67 = .ok (.idiv, 1) := by decide +kernel
theorem dX11_forged_68 : decode cX11_forged 68 = .ok (.bipush 10, 2) := by decide +kernel
theorem dX11_forged_70 : decode cX11_forged 70 = .ok (.irem, 1) := by decide +kernel
theorem dX11_forged_71 : decode cX11_forged 71 = .ok (.istore 8, 2) := by decide +kernel
theorem dX11_forged_73 : decode cX11_forged 73 = .ok (.iload 6, 2) := by decide +kernel
theorem dX11_forged_75 : decode cX11_forged 75 = .ok (.bipush 10, 2) := by decide +kernel
theorem dX11_forged_77 : decode cX11_forged 77 = .ok (.irem, 1) := by decide +kernel
theorem dX11_forged_78 : decode cX11_forged 78 = .ok (.istore 9, 2) := by decide +kernel
theorem dX11_forged_80 : decode cX11_forged 80 = .ok (.aload_n 0, 1) := by decide +kernel
theorem dX11_forged_81 : decode cX11_forged 81 = .ok (.iload_n 1, 1) := by decide +kernel
theorem dX11_forged_82 : decode cX11_forged 82 = .ok (.iconst 0, 1) := by decide +kernel
theorem dX11_forged_83 : decode cX11_forged 83 = .ok (.invokevirtual 103, 3) := by decide +kernel
theorem dX11_forged_86 : decode cX11_forged 86 = .ok (.iload 7, 2) := by decide +kernel
theorem dX11_forged_88 : decode cX11_forged 88 = .ok (.iadd, 1) := by decide +kernel
theorem dX11_forged_89 : decode cX11_forged 89 = .ok (.bipush 9, 2) := by decide +kernel
theorem dX11_forged_91 : decode cX11_forged 91 = .ok (.if_icmp .gt 35, 3) := by decide +kernel
theorem dX11_forged_94 : decode cX11_forged 94 = .ok (.aload_n 0, 1) := by decide +kernel
theorem dX11_forged_95 : decode cX11_forged 95 = .ok (.iload_n 1, 1) := by decide +kernel
theorem dX11_forged_96 : decode cX11_forged 96 = .ok (.iconst 1, 1) := by decide +kernel
theorem dX11_forged_97 : decode cX11_forged 97 = .ok (.invokevirtual 103, 3) := by decide +kernel
theorem dX11_forged_100 : decode cX11_forged 100 = .ok (.iload 8, 2) := by decide +kernel
theorem dX11_forged_102 : decode cX11_forged 102 = .ok (.iadd, 1) := by decide +kernel
theorem dX11_forged_103 : decode cX11_forged 103 = .ok (.bipush 9, 2) := by decide +kernel
theorem dX11_forged_105 : decode cX11_forged 105 = .ok (.if_icmp .gt 21, 3) := by decide +kernel
theorem dX11_forged_108 : decode cX11_forged 108 = .ok (.aload_n 0, 1) := by decide +kernel
theorem dX11_forged_109 : decode cX11_forged 109 = .ok (.iload_n 1, 1) := by decide +kernel
theorem dX11_forged_110 : decode cX11_forged 110 = .ok (.iconst 2, 1) := by decide +kernel
theorem dX11_forged_111 : decode cX11_forged 111 = .ok (.invokevirtual 103, 3) := by decide +kernel
theorem dX11_forged_114 : decode cX11_forged 114 = .ok (.iload 9, 2) := by decide +kernel
theorem dX11_forged_116 : decode cX11_forged 116 = .ok (.iadd, 1) := by decide +kernel
theorem dX11_forged_117 : decode cX11_forged 117 = .ok (.bipush 9, 2) := by decide +kernel
theorem dX11_forged_119 : decode cX11_forged 119 = .ok (.if_icmp .gt 7, 3) := by decide +kernel
theorem dX11_forged_122 : decode cX11_forged 122 = .ok (.iconst 1, 1) := by decide +kernel
theorem dX11_forged_123 : decode cX11_forged 123 = .ok (.goto 4, 3) := by decide +kernel
theorem dX11_forged_126 : decode cX11_forged 126 = .ok (.iconst 0, 1) := by decide +kernel
theorem dX11_forged_127 : decode cX11_forged 127 = .ok (.istore 10, 2) := by decide +kernel
theorem dX11_forged_129 : decode cX11_forged 129 = .ok (.iload 10, 2) := by decide +kernel
theorem dX11_forged_131 : decode cX11_forged 131 = .ok (.ifCond .eq 129, 3) := by decide +kernel
theorem dX11_forged_134 : decode cX11_forged 134 = .ok (.iload 7, 2) := by decide +kernel
theorem dX11_forged_136 : decode cX11_forged 136 = .ok (.iload 8, 2) := by decide +kernel
theorem dX11_forged_138 : decode cX11_forged 138 = .ok (.iadd, 1) := by decide +kernel
theorem dX11_forged_139 : decode cX11_forged 139 = .ok (.iload 9, 2) := by decide +kernel
theorem dX11_forged_141 : decode cX11_forged 141 = .ok (.iadd, 1) := by decide +kernel
theorem dX11_forged_142 : decode cX11_forged 142 = .ok (.iload 4, 2) := by decide +kernel
theorem dX11_forged_144 : decode cX11_forged 144 = .ok (.if_icmp .ge 116, 3) := by decide +kernel
theorem dX11_forged_147 : decode cX11_forged 147 = .ok (.aload_n 0, 1) := by decide +kernel
theorem dX11_forged_148 : decode cX11_forged 148 = .ok (.getfield 53, 3) := by decide +kernel
theorem dX11_forged_151 : decode cX11_forged 151 = .ok (.iconst 3, 1) := by decide +kernel
theorem dX11_forged_152 : decode cX11_forged 152 = .ok (.iload_n 1, 1) := by decide +kernel
theorem dX11_forged_153 : decode cX11_forged 153 = .ok (.imul, 1) := by decide +kernel
theorem dX11_forged_154 : decode cX11_forged 154 = .ok (.iload 7, 2) := by decide +kernel
theorem dX11_forged_156 : decode cX11_forged 156 = .ok (.iastore, 1) := by decide +kernel
theorem dX11_forged_157 : decode cX11_forged 157 = .ok (.aload_n 0, 1) := by decide +kernel
theorem dX11_forged_158 : decode cX11_forged 158 = .ok (.getfield 53, 3) := by decide +kernel
theorem dX11_forged_161 : decode cX11_forged 161 = .ok (.iconst 3, 1) := by decide +kernel
theorem dX11_forged_162 : decode cX11_forged 162 = .ok (.iload_n 1, 1) := by decide +kernel
theorem dX11_forged_163 : decode cX11_forged 163 = .ok (.imul, 1) := by decide +kernel
theorem dX11_forged_164 : decode cX11_forged 164 = .ok (.iconst 1, 1) := by decide +kernel
theorem dX11_forged_165 : decode cX11_forged 165 = .ok (.iadd, 1) := by decide +kernel
theorem dX11_forged_166 : decode cX11_forged 166 = .ok (.iload 8, 2) := by decide +kernel
theorem dX11_forged_168 : decode cX11_forged 168 = .ok (.iastore, 1) := by decide +kernel
theorem dX11_forged_169 : decode cX11_forged 169 = .ok (.aload_n 0, 1) := by decide +kernel
theorem dX11_forged_170 : decode cX11_forged 170 = .ok (.getfield 53, 3) := by decide +kernel
theorem dX11_forged_173 : decode cX11_forged 173 = .ok (.iconst 3, 1) := by decide +kernel
theorem dX11_forged_174 : decode cX11_forged 174 = .ok (.iload_n 1, 1) := by decide +kernel
theorem dX11_forged_175 : decode cX11_forged 175 = .ok (.imul, 1) := by decide +kernel
theorem dX11_forged_176 : decode cX11_forged 176 = .ok (.iconst 2, 1) := by decide +kernel
theorem dX11_forged_177 : decode cX11_forged 177 = .ok (.iadd, 1) := by decide +kernel
theorem dX11_forged_178 : decode cX11_forged 178 = .ok (.iload 9, 2) := by decide +kernel
theorem dX11_forged_180 : decode cX11_forged 180 = .ok (.iastore, 1) := by decide +kernel
theorem dX11_forged_181 : decode cX11_forged 181 = .ok (.aload_n 0, 1) := by decide +kernel
theorem dX11_forged_182 : decode cX11_forged 182 = .ok (.aload_n 0, 1) := by decide +kernel
theorem dX11_forged_183 : decode cX11_forged 183 = .ok (.invokevirtual 185, 3) := by decide +kernel
theorem dX11_forged_186 : decode cX11_forged 186 = .ok (.invokevirtual 188, 3) := by decide +kernel
theorem dX11_forged_189 : decode cX11_forged 189 = .ok (.iconst 0, 1) := by decide +kernel
theorem dX11_forged_190 : decode cX11_forged 190 = .ok (.istore 11, 2) := by decide +kernel
theorem dX11_forged_192 : decode cX11_forged 192 = .ok (.iload 11, 2) := by decide +kernel
theorem dX11_forged_194 : decode cX11_forged 194 = .ok (.iconst 3, 1) := by decide +kernel
theorem dX11_forged_195 : decode cX11_forged 195 = .ok (.if_icmp .ge 21, 3) := by decide +kernel
theorem dX11_forged_198 : decode cX11_forged 198 = .ok (.aload_n 0, 1) := by decide +kernel
theorem dX11_forged_199 : decode cX11_forged 199 = .ok (.getfield 53, 3) := by decide +kernel
theorem dX11_forged_202 : decode cX11_forged 202 = .ok (.iconst 3, 1) := by decide +kernel
theorem dX11_forged_203 : decode cX11_forged 203 = .ok (.iload_n 1, 1) := by decide +kernel
theorem dX11_forged_204 : decode cX11_forged 204 = .ok (.imul, 1) := by decide +kernel
theorem dX11_forged_205 : decode cX11_forged 205 = .ok (.iload 11, 2) := by decide +kernel
theorem dX11_forged_207 : decode cX11_forged 207 = .ok (.iadd, 1) := by decide +kernel
theorem dX11_forged_208 : decode cX11_forged 208 = .ok (.iconst 0, 1) := by decide +kernel
theorem dX11_forged_209 : decode cX11_forged 209 = .ok (.iastore, 1) := by decide +kernel
theorem dX11_forged_210 : decode cX11_forged 210 = .ok (.iinc 11 1, 3) := by decide +kernel
theorem dX11_forged_213 : decode cX11_forged 213 = .ok (.goto (-21), 3) := by decide +kernel
theorem dX11_forged_216 : decode cX11_forged 216 = .ok (.aload_n 0, 1) := by decide +kernel
theorem dX11_forged_217 : decode cX11_forged 217 = .ok (.getfield 44, 3) := by decide +kernel
theorem dX11_forged_220 : decode cX11_forged 220 = .ok (.iload_n 1, 1) := by decide +kernel
theorem dX11_forged_221 : decode cX11_forged 221 = .ok (.iaload, 1) := by decide +kernel
theorem dX11_forged_222 : decode cX11_forged 222 = .ok (.iload_n 2, 1) := by decide +kernel
theorem dX11_forged_223 : decode cX11_forged 223 = .ok (.if_icmp .ne 14, 3) := by decide +kernel
theorem dX11_forged_226 : decode cX11_forged 226 = .ok (.iload 7, 2) := by decide +kernel
theorem dX11_forged_228 : decode cX11_forged 228 = .ok (.iload 8, 2) := by decide +kernel
theorem dX11_forged_230 : decode cX11_forged 230 = .ok (.iadd, 1) := by decide +kernel
theorem dX11_forged_231 : decode cX11_forged 231 = .ok (.iload 9, 2) := by decide +kernel
theorem dX11_forged_233 : decode cX11_forged 233 = .ok (.iadd, 1) := by decide +kernel
theorem dX11_forged_234 : decode cX11_forged 234 = .ok (.goto 5, 3) := by decide +kernel
theorem dX11_forged_237 : decode cX11_forged 237 = .ok (.iload 4, 2) := by decide +kernel
theorem dX11_forged_239 : decode cX11_forged 239 = .ok (.istore 4, 2) := by decide +kernel
theorem dX11_forged_241 : decode cX11_forged 241 = .ok (.aload_n 0, 1) := by decide +kernel
theorem dX11_forged_242 : decode cX11_forged 242 = .ok (.getfield 44, 3) := by decide +kernel
theorem dX11_forged_245 : decode cX11_forged 245 = .ok (.iload_n 1, 1) := by decide +kernel
theorem dX11_forged_246 : decode cX11_forged 246 = .ok (.iaload, 1) := by decide +kernel
theorem dX11_forged_247 : decode cX11_forged 247 = .ok (.iload_n 2, 1) := by decide +kernel
theorem dX11_forged_248 : decode cX11_forged 248 = .ok (.if_icmp .ne 8, 3) := by decide +kernel
theorem dX11_forged_251 : decode cX11_forged 251 = .ok (.iload 6, 2) := by decide +kernel
theorem dX11_forged_253 : decode cX11_forged 253 = .ok (.goto 5, 3) := by decide +kernel
theorem dX11_forged_256 : decode cX11_forged 256 = .ok (.iload 5, 2) := by decide +kernel
theorem dX11_forged_258 : decode cX11_forged 258 = .ok (.istore 5, 2) := by decide +kernel
theorem dX11_forged_260 : decode cX11_forged 260 = .ok (.iinc 6 1, 3) := by decide +kernel
theorem dX11_forged_263 : decode cX11_forged 263 = .ok (.goto (-215), 3) := by decide +kernel
theorem dX11_forged_266 : decode cX11_forged 266 = .ok (.iload 5, 2) := by decide +kernel
theorem dX11_forged_268 : decode cX11_forged 268 = .ok (.bipush (-9), 2) := by decide +kernel
theorem dX11_forged_270 : decode cX11_forged 270 = .ok (.if_icmp .ne 8, 3) := by decide +kernel
theorem dX11_forged_273 : decode cX11_forged 273 = .ok (.bipush (-9), 2) := by decide +kernel
theorem dX11_forged_275 : decode cX11_forged 275 = .ok (.goto 14, 3) := by decide +kernel
theorem dX11_forged_278 : decode cX11_forged 278 = .ok (.iload_n 3, 1) := by decide +kernel
theorem dX11_forged_279 : decode cX11_forged 279 = .ok (.ifCond .ne 8, 3) := by decide +kernel
theorem dX11_forged_282 : decode cX11_forged 282 = .ok (.iload 4, 2) := by decide +kernel
theorem dX11_forged_284 : decode cX11_forged 284 = .ok (.goto 5, 3) := by decide +kernel
theorem dX11_forged_287 : decode cX11_forged 287 = .ok (.iload 5, 2) := by decide +kernel
theorem dX11_forged_289 : decode cX11_forged 289 = .ok (.ireturn, 1) := by decide +kernel
theorem dX11_left_0 : decode cX11_left 0 = .ok (.aload_n 0, 1) := by decide +kernel
theorem dX11_left_1 : decode cX11_left 1 = .ok (.iconst 0, 1) := by decide +kernel
theorem dX11_left_2 : decode cX11_left 2 = .ok (.putfield 56, 3) := by decide +kernel
theorem dX11_left_5 : decode cX11_left 5 = .ok (.aload_n 0, 1) := by decide +kernel
theorem dX11_left_6 : decode cX11_left 6 = .ok (.aload_n 0, 1) := by decide +kernel
theorem dX11_left_7 : decode cX11_left 7 = .ok (.invokevirtual 185, 3) := by decide +kernel
theorem dX11_left_10 : decode cX11_left 10 = .ok (.invokevirtual 188, 3) := by decide +kernel
theorem dX11_left_13 : decode cX11_left 13 = .ok (.iconst 0, 1) := by decide +kernel
theorem dX11_left_14 : decode cX11_left 14 = .ok (.istore_n 1, 1) := by decide +kernel
theorem dX11_left_15 : decode cX11_left 15 = .ok (.iconst 0, 1) := by decide +kernel
theorem dX11_left_16 : decode cX11_left 16 = .ok (.istore_n 2, 1) := by decide +kernel
theorem dX11_left_17 : decode cX11_left 17 = .ok (.iload_n 2, 1) := by decide +kernel
theorem dX11_left_18 : decode cX11_left 18 = .ok (.aload_n 0, 1) := by decide +kernel
theorem dX11_left_19 : decode cX11_left 19 = .ok (.getfield 60, 3) := by decide +kernel
theorem dX11_left_22 : decode cX11_left 22 = .ok (.if_icmp .ge 31, 3) := by decide +kernel
theorem dX11_left_25 : decode cX11_left 25 = .ok (.iload_n 1, 1) := by decide +kernel
theorem dX11_left_26 : decode cX11_left 26 = .ok (.aload_n 0, 1) := by decide +kernel
theorem dX11_left_27 : decode cX11_left 27 = .ok (.aload_n 0, 1) := by decide +kernel
theorem dX11_left_28 : decode cX11_left 28 = .ok (.getfield 44, 3) := by decide +kernel
theorem dX11_left_31 : decode cX11_left 31 = .ok (.iload_n 2, 1) := by decide +kernel
theorem dX11_left_32 : decode cX11_left 32 = .ok (.invokevirtual 128, 3) := by decide +kernel
theorem dX11_left_35 : decode cX11_left 35 = .ok (.ifCond .eq 7, 3) := by decide +kernel
theorem dX11_left_38 : decode cX11_left 38 = .ok (.iconst 0, 1) := by decide +kernel
theorem dX11_left_39 : decode cX11_left 39 = .ok (.goto 6, 3) := by decide +kernel
theorem dX11_left_42 : decode cX11_left 42 = .ok (.iconst 1, 1) := by decide +kernel
theorem dX11_left_43 : decode cX11_left 43 = .ok (.iload_n 2, 1) := by decide +kernel
theorem dX11_left_44 : decode cX11_left 44 = .ok (.ishl, 1) := by decide +kernel
theorem dX11_left_45 : decode cX11_left 45 = .ok (.ior, 1) := by decide +kernel
theorem dX11_left_46 : decode cX11_left 46 = .ok (.istore_n 1, 1) := by decide +kernel
theorem dX11_left_47 : decode cX11_left 47 = .ok (.iinc 2 1, 3) := by decide +kernel
theorem dX11_left_50 : decode cX11_left 50 = .ok (.goto (-33), 3) := by decide +kernel
theorem dX11_left_53 : decode cX11_left 53 = .ok (.iload_n 1, 1) := by decide +kernel
theorem dX11_left_54 : decode cX11_left 54 = .ok (.ireturn, 1) := by decide +kernel
theorem dX11_findRace_0 : decode cX11_findRace 0 = .ok (.bipush (-9), 2) := by decide +kernel
theorem dX11_findRace_2 : decode cX11_findRace 2 = .ok (.istore_n 1, 1) := by decide +kernel
theorem dX11_findRace_3 : decode cX11_findRace 3 = .ok (.aload_n 0, 1) := by decide +kernel
theorem dX11_findRace_4 : decode cX11_findRace 4 = .ok (.invokevirtual 198, 3) := by decide +kernel
theorem dX11_findRace_7 : decode cX11_findRace 7 = .ok (.iconst 1, 1) := by decide +kernel
theorem dX11_findRace_8 : decode cX11_findRace 8 = .ok (.istore_n 2, 1) := by decide +kernel
theorem dX11_findRace_9 : decode cX11_findRace 9 = .ok (.iload_n 2, 1) := by decide +kernel
theorem dX11_findRace_10 : decode cX11_findRace 10 = .ok (.ifCond .eq 130, 3) := by decide +kernel
theorem dX11_findRace_13 : decode cX11_findRace 13 = .ok (.aload_n 0, 1) := by decide +kernel
theorem dX11_findRace_14 : decode cX11_findRace 14 = .ok (.invokevirtual 192, 3) := by decide +kernel
theorem dX11_findRace_17 : decode cX11_findRace 17 = .ok (.ifCond .eq 115, 3) := by decide +kernel
theorem dX11_findRace_20 : decode cX11_findRace 20 = .ok (.iconst 0, 1) := by decide +kernel
theorem dX11_findRace_21 : decode cX11_findRace 21 = .ok (.istore_n 3, 1) := by decide +kernel
theorem dX11_findRace_22 : decode cX11_findRace 22 = .ok (.iconst 0, 1) := by decide +kernel
theorem dX11_findRace_23 : decode cX11_findRace 23 = .ok (.istore 4, 2) := by decide +kernel
theorem dX11_findRace_25 : decode cX11_findRace 25 = .ok (.iload 4, 2) := by decide +kernel
theorem dX11_findRace_27 : decode cX11_findRace 27 = .ok (.aload_n 0, 1) := by decide +kernel
theorem dX11_findRace_28 : decode cX11_findRace 28 = .ok (.getfield 67, 3) := by decide +kernel
theorem dX11_findRace_31 : decode cX11_findRace 31 = .ok (.if_icmp .ge 62, 3) := by decide +kernel
theorem dX11_findRace_34 : decode cX11_findRace 34 = .ok (.iload_n 3, 1) := by decide +kernel
theorem dX11_findRace_35 : decode cX11_findRace 35 = .ok (.aload_n 0, 1) := by decide +kernel
theorem dX11_findRace_36 : decode cX11_findRace 36 = .ok (.getfield 47, 3) := by decide +kernel
theorem dX11_findRace_39 : decode cX11_findRace 39 = .ok (.iload 4, 2) := by decide +kernel
theorem dX11_findRace_41 : decode cX11_findRace 41 = .ok (.iaload, 1) := by decide +kernel
theorem dX11_findRace_42 : decode cX11_findRace 42 = .ok (.bipush (-9), 2) := by decide +kernel
theorem dX11_findRace_44 : decode cX11_findRace 44 = .ok (.if_icmp .ne 7, 3) := by decide +kernel
theorem dX11_findRace_47 : decode cX11_findRace 47 = .ok (.iconst 0, 1) := by decide +kernel
theorem dX11_findRace_48 : decode cX11_findRace 48 = .ok (.goto 37, 3) := by decide +kernel
theorem dX11_findRace_51 : decode cX11_findRace 51 = .ok (.aload_n 0, 1) := by decide +kernel
theorem dX11_findRace_52 : decode cX11_findRace 52 = .ok (.getfield 13, 3) := by decide +kernel
theorem dX11_findRace_55 : decode cX11_findRace 55 = .ok (.bipush 7, 2) := by decide +kernel
theorem dX11_findRace_57 : decode cX11_findRace 57 = .ok (.aload_n 0, 1) := by decide +kernel
theorem dX11_findRace_58 : decode cX11_findRace 58 = .ok (.getfield 47, 3) := by decide +kernel
theorem dX11_findRace_61 : decode cX11_findRace 61 = .ok (.iload 4, 2) := by decide +kernel
theorem dX11_findRace_63 : decode cX11_findRace 63 = .ok (.iaload, 1) := by decide +kernel
theorem dX11_findRace_64 : decode cX11_findRace 64 = .ok (.imul, 1) := by decide +kernel
theorem dX11_findRace_65 : decode cX11_findRace 65 = .ok (.iconst 4, 1) := by decide +kernel
theorem dX11_findRace_66 : decode cX11_findRace 66 = .ok (.iadd, 1) := by decide +kernel
theorem dX11_findRace_67 : decode cX11_findRace 67 = .ok (.iaload, 1) := by decide +kernel
theorem dX11_findRace_68 : decode cX11_findRace 68 = .ok (.aload_n 0, 1) := by decide +kernel
theorem dX11_findRace_69 : decode cX11_findRace 69 = .ok (.aload_n 0, 1) := by decide +kernel
theorem dX11_findRace_70 : decode cX11_findRace 70 = .ok (.getfield 47, 3) := by decide +kernel
theorem dX11_findRace_73 : decode cX11_findRace 73 = .ok (.iload 4, 2) := by decide +kernel
theorem dX11_findRace_75 : decode cX11_findRace 75 = .ok (.iaload, 1) := by decide +kernel
theorem dX11_findRace_76 : decode cX11_findRace 76 = .ok (.iload 4, 2) := by decide +kernel
theorem dX11_findRace_78 : decode cX11_findRace 78 = .ok (.invokevirtual 106, 3) := by decide +kernel
theorem dX11_findRace_81 : decode cX11_findRace 81 = .ok (.bipush 10, 2) := by decide +kernel
theorem dX11_findRace_83 : decode cX11_findRace 83 = .ok (.idiv, 1) := by decide +kernel
theorem dX11_findRace_84 : decode cX11_findRace 84 = .ok (.iadd, 1) := by decide +kernel
theorem dX11_findRace_85 : decode cX11_findRace 85 = .ok (.iadd, 1) := by decide +kernel
theorem dX11_findRace_86 : decode cX11_findRace 86 = .ok (.istore_n 3, 1) := by decide +kernel
theorem dX11_findRace_87 : decode cX11_findRace 87 = .ok (.iinc 4 1, 3) := by decide +kernel
theorem dX11_findRace_90 : decode cX11_findRace 90 = .ok (.goto (-65), 3) := by decide +kernel
theorem dX11_findRace_93 : decode cX11_findRace 93 = .ok (.iload_n 3, 1) := by decide +kernel
theorem dX11_findRace_94 : decode cX11_findRace 94 = .ok (.iload_n 1, 1) := by decide +kernel
theorem dX11_findRace_95 : decode cX11_findRace 95 = .ok (.if_icmp .le 37, 3) := by decide +kernel
theorem dX11_findRace_98 : decode cX11_findRace 98 = .ok (.iload_n 3, 1) := by decide +kernel
theorem dX11_findRace_99 : decode cX11_findRace 99 = .ok (.istore_n 1, 1) := by decide +kernel
theorem dX11_findRace_100 : decode cX11_findRace 100 = .ok (.iconst 0, 1) := by decide +kernel
theorem dX11_findRace_101 : decode cX11_findRace 101 = .ok (.istore 4, 2) := by decide +kernel
theorem dX11_findRace_103 : decode cX11_findRace 103 = .ok (.iload 4, 2) := by decide +kernel
theorem dX11_findRace_105 : decode cX11_findRace 105 = .ok (.aload_n 0, 1) := by decide +kernel
theorem dX11_findRace_106 : decode cX11_findRace 106 = .ok (.getfield 67, 3) := by decide +kernel
theorem dX11_findRace_109 : decode cX11_findRace 109 = .ok (.if_icmp .ge 23, 3) := by decide +kernel
theorem dX11_findRace_112 : decode cX11_findRace 112 = .ok (.aload_n 0, 1) := by decide +kernel
theorem dX11_findRace_113 : decode cX11_findRace 113 = .ok (.getfield 50, 3) := by decide +kernel
theorem dX11_findRace_116 : decode cX11_findRace 116 = .ok (.iload 4, 2) := by decide +kernel
theorem dX11_findRace_118 : decode cX11_findRace 118 = .ok (.aload_n 0, 1) := by decide +kernel
theorem dX11_findRace_119 : decode cX11_findRace 119 = .ok (.getfield 47, 3) := by decide +kernel
theorem dX11_findRace_122 : decode cX11_findRace 122 = .ok (.iload 4, 2) := by decide +kernel
theorem dX11_findRace_124 : decode cX11_findRace 124 = .ok (.iaload, 1) := by decide +kernel
theorem dX11_findRace_125 : decode cX11_findRace 125 = .ok (.iastore, 1) := by decide +kernel
theorem dX11_findRace_126 : decode cX11_findRace 126 = .ok (.iinc 4 1, 3) := by decide +kernel
theorem dX11_findRace_129 : decode cX11_findRace 129 = .ok (.goto (-26), 3) := by decide +kernel
theorem dX11_findRace_132 : decode cX11_findRace 132 = .ok (.aload_n 0, 1) := by decide +kernel
theorem dX11_findRace_133 : decode cX11_findRace 133 = .ok (.invokevirtual 204, 3) := by decide +kernel
theorem dX11_findRace_136 : decode cX11_findRace 136 = .ok (.istore_n 2, 1) := by decide +kernel
theorem dX11_findRace_137 : decode cX11_findRace 137 = .ok (.goto (-128), 3) := by decide +kernel
theorem dX11_findRace_140 : decode cX11_findRace 140 = .ok (.iload_n 1, 1) := by decide +kernel
theorem dX11_findRace_141 : decode cX11_findRace 141 = .ok (.ireturn, 1) := by decide +kernel
theorem dX11_race_0 : decode cX11_race 0 = .ok (.aload_n 0, 1) := by decide +kernel
theorem dX11_race_1 : decode cX11_race 1 = .ok (.iconst 0, 1) := by decide +kernel
theorem dX11_race_2 : decode cX11_race 2 = .ok (.putfield 56, 3) := by decide +kernel
theorem dX11_race_5 : decode cX11_race 5 = .ok (.aload_n 0, 1) := by decide +kernel
theorem dX11_race_6 : decode cX11_race 6 = .ok (.invokevirtual 210, 3) := by decide +kernel
theorem dX11_race_9 : decode cX11_race 9 = .ok (.ireturn, 1) := by decide +kernel
theorem dX11_raceOf_0 : decode cX11_raceOf 0 = .ok (.aload_n 0, 1) := by decide +kernel
theorem dX11_raceOf_1 : decode cX11_raceOf 1 = .ok (.iconst 0, 1) := by decide +kernel
theorem dX11_raceOf_2 : decode cX11_raceOf 2 = .ok (.putfield 56, 3) := by decide +kernel
theorem dX11_raceOf_5 : decode cX11_raceOf 5 = .ok (.aload_n 0, 1) := by decide +kernel
theorem dX11_raceOf_6 : decode cX11_raceOf 6 = .ok (.iload_n 1, 1) := by decide +kernel
theorem dX11_raceOf_7 : decode cX11_raceOf 7 = .ok (.invokevirtual 153, 3) := by decide +kernel
theorem dX11_raceOf_10 : decode cX11_raceOf 10 = .ok (.ifCond .eq 5, 3) := by decide +kernel
theorem dX11_raceOf_13 : decode cX11_raceOf 13 = .ok (.iconst (-1), 1) := by decide +kernel
theorem dX11_raceOf_14 : decode cX11_raceOf 14 = .ok (.ireturn, 1) := by decide +kernel
theorem dX11_raceOf_15 : decode cX11_raceOf 15 = .ok (.aload_n 0, 1) := by decide +kernel
theorem dX11_raceOf_16 : decode cX11_raceOf 16 = .ok (.invokevirtual 210, 3) := by decide +kernel
theorem dX11_raceOf_19 : decode cX11_raceOf 19 = .ok (.pop, 1) := by decide +kernel
theorem dX11_raceOf_20 : decode cX11_raceOf 20 = .ok (.aload_n 0, 1) := by decide +kernel
theorem dX11_raceOf_21 : decode cX11_raceOf 21 = .ok (.getfield 50, 3) := by decide +kernel
theorem dX11_raceOf_24 : decode cX11_raceOf 24 = .ok (.iload_n 1, 1) := by decide +kernel
theorem dX11_raceOf_25 : decode cX11_raceOf 25 = .ok (.iaload, 1) := by decide +kernel
theorem dX11_raceOf_26 : decode cX11_raceOf 26 = .ok (.bipush (-9), 2) := by decide +kernel
theorem dX11_raceOf_28 : decode cX11_raceOf 28 = .ok (.if_icmp .ne 8, 3) := by decide +kernel
theorem dX11_raceOf_31 : decode cX11_raceOf 31 = .ok (.bipush 9, 2) := by decide +kernel
theorem dX11_raceOf_33 : decode cX11_raceOf 33 = .ok (.goto 9, 3) := by decide +kernel
theorem dX11_raceOf_36 : decode cX11_raceOf 36 = .ok (.aload_n 0, 1) := by decide +kernel
theorem dX11_raceOf_37 : decode cX11_raceOf 37 = .ok (.getfield 50, 3) := by decide +kernel
theorem dX11_raceOf_40 : decode cX11_raceOf 40 = .ok (.iload_n 1, 1) := by decide +kernel
theorem dX11_raceOf_41 : decode cX11_raceOf 41 = .ok (.iaload, 1) := by decide +kernel
theorem dX11_raceOf_42 : decode cX11_raceOf 42 = .ok (.ireturn, 1) := by decide +kernel
theorem dX11_choose_0 : decode cX11_choose 0 = .ok (.aload_n 0, 1) := by decide +kernel
theorem dX11_choose_1 : decode cX11_choose 1 = .ok (.iconst 0, 1) := by decide +kernel
theorem dX11_choose_2 : decode cX11_choose 2 = .ok (.putfield 56, 3) := by decide +kernel
theorem dX11_choose_5 : decode cX11_choose 5 = .ok (.aload_n 0, 1) := by decide +kernel
theorem dX11_choose_6 : decode cX11_choose 6 = .ok (.iload_n 1, 1) := by decide +kernel
theorem dX11_choose_7 : decode cX11_choose 7 = .ok (.invokevirtual 153, 3) := by decide +kernel
theorem dX11_choose_10 : decode cX11_choose 10 = .ok (.ifCond .ne 11, 3) := by decide +kernel
theorem dX11_choose_13 : decode cX11_choose 13 = .ok (.aload_n 0, 1) := by decide +kernel
theorem dX11_choose_14 : decode cX11_choose 14 = .ok (.iload_n 2, 1) := by decide +kernel
theorem dX11_choose_15 : decode cX11_choose 15 = .ok (.invokevirtual 153, 3) := by decide +kernel
theorem dX11_choose_18 : decode cX11_choose 18 = .ok (.ifCond .eq 5, 3) := by decide +kernel
theorem dX11_choose_21 : decode cX11_choose 21 = .ok (.iconst (-1), 1) := by decide +kernel
theorem dX11_choose_22 : decode cX11_choose 22 = .ok (.ireturn, 1) := by decide +kernel
theorem dX11_choose_23 : decode cX11_choose 23 = .ok (.iload_n 1, 1) := by decide +kernel
theorem dX11_choose_24 : decode cX11_choose 24 = .ok (.iload_n 2, 1) := by decide +kernel
theorem dX11_choose_25 : decode cX11_choose 25 = .ok (.if_icmp .ne 6, 3) := by decide +kernel
theorem dX11_choose_28 : decode cX11_choose 28 = .ok (.bipush (-2), 2) := by decide +kernel
theorem dX11_choose_30 : decode cX11_choose 30 = .ok (.ireturn, 1) := by decide +kernel
theorem dX11_choose_31 : decode cX11_choose 31 = .ok (.aload_n 0, 1) := by decide +kernel
theorem dX11_choose_32 : decode cX11_choose 32 = .ok (.getfield 143, 3) := by decide +kernel
theorem dX11_choose_35 : decode cX11_choose 35 = .ok (.bipush 6, 2) := by decide +kernel
theorem dX11_choose_37 : decode cX11_choose 37 = .ok (.if_icmp .ne 6, 3) := by decide +kernel
theorem dX11_choose_40 : decode cX11_choose 40 = .ok (.bipush (-4), 2) := by decide +kernel
theorem dX11_choose_42 : decode cX11_choose 42 = .ok (.ireturn, 1) := by decide +kernel
theorem dX11_choose_43 : decode cX11_choose 43 = .ok (.aload_n 0, 1) := by decide +kernel
theorem dX11_choose_44 : decode cX11_choose 44 = .ok (.getfield 38, 3) := by decide +kernel
theorem dX11_choose_47 : decode cX11_choose 47 = .ok (.aload_n 0, 1) := by decide +kernel
theorem dX11_choose_48 : decode cX11_choose 48 = .ok (.getfield 143, 3) := by decide +kernel
theorem dX11_choose_51 : decode cX11_choose 51 = .ok (.iload_n 1, 1) := by decide +kernel
theorem dX11_choose_52 : decode cX11_choose 52 = .ok (.iastore, 1) := by decide +kernel
theorem dX11_choose_53 : decode cX11_choose 53 = .ok (.aload_n 0, 1) := by decide +kernel
theorem dX11_choose_54 : decode cX11_choose 54 = .ok (.getfield 41, 3) := by decide +kernel
theorem dX11_choose_57 : decode cX11_choose 57 = .ok (.aload_n 0, 1) := by decide +kernel
theorem dX11_choose_58 : decode cX11_choose 58 = .ok (.getfield 143, 3) := by decide +kernel
theorem dX11_choose_61 : decode cX11_choose 61 = .ok (.iload_n 2, 1) := by decide +kernel
theorem dX11_choose_62 : decode cX11_choose 62 = .ok (.iastore, 1) := by decide +kernel
theorem dX11_choose_63 : decode cX11_choose 63 = .ok (.aload_n 0, 1) := by decide +kernel
theorem dX11_choose_64 : decode cX11_choose 64 = .ok (.dup, 1) := by decide +kernel
theorem dX11_choose_65 : decode cX11_choose 65 = .ok (.getfield 143, 3) := by decide +kernel
theorem dX11_choose_68 : decode cX11_choose 68 = .ok (.iconst 1, 1) := by decide +kernel
theorem dX11_choose_69 : decode cX11_choose 69 = .ok (.iadd, 1) := by decide +kernel
theorem dX11_choose_70 : decode cX11_choose 70 = .ok (.putfield 143, 3) := by decide +kernel
theorem dX11_choose_73 : decode cX11_choose 73 = .ok (.aload_n 0, 1) := by decide +kernel
theorem dX11_choose_74 : decode cX11_choose 74 = .ok (.getfield 143, 3) := by decide +kernel
theorem dX11_choose_77 : decode cX11_choose 77 = .ok (.ireturn, 1) := by decide +kernel
theorem dX11_unchoose_0 : decode cX11_unchoose 0 = .ok (.aload_n 0, 1) := by decide +kernel
theorem dX11_unchoose_1 : decode cX11_unchoose 1 = .ok (.iconst 0, 1) := by decide +kernel
theorem dX11_unchoose_2 : decode cX11_unchoose 2 = .ok (.putfield 56, 3) := by decide +kernel
theorem dX11_unchoose_5 : decode cX11_unchoose 5 = .ok (.aload_n 0, 1) := by decide +kernel
theorem dX11_unchoose_6 : decode cX11_unchoose 6 = .ok (.getfield 143, 3) := by decide +kernel
theorem dX11_unchoose_9 : decode cX11_unchoose 9 = .ok (.istore_n 1, 1) := by decide +kernel
theorem dX11_unchoose_10 : decode cX11_unchoose 10 = .ok (.aload_n 0, 1) := by decide +kernel
theorem dX11_unchoose_11 : decode cX11_unchoose 11 = .ok (.iconst 0, 1) := by decide +kernel
theorem dX11_unchoose_12 : decode cX11_unchoose 12 = .ok (.putfield 143, 3) := by decide +kernel
theorem dX11_unchoose_15 : decode cX11_unchoose 15 = .ok (.iload_n 1, 1) := by decide +kernel
theorem dX11_unchoose_16 : decode cX11_unchoose 16 = .ok (.ireturn, 1) := by decide +kernel
theorem dX11_isBetter_0 : decode cX11_isBetter 0 = .ok (.iconst 0, 1) := by decide +kernel
theorem dX11_isBetter_1 : decode cX11_isBetter 1 = .ok (.istore 4, 2) := by decide +kernel
theorem dX11_isBetter_3 : decode cX11_isBetter 3 = .ok (.iconst 0, 1) := by decide +kernel
theorem dX11_isBetter_4 : decode cX11_isBetter 4 = .ok (.istore 5, 2) := by decide +kernel
theorem dX11_isBetter_6 : decode cX11_isBetter 6 = .ok (.iload 5, 2) := by decide +kernel
theorem dX11_isBetter_8 : decode cX11_isBetter 8 = .ok (.iconst 3, 1) := by decide +kernel
theorem dX11_isBetter_9 : decode cX11_isBetter 9 = .ok (.if_icmp .ge 71, 3) := by decide +kernel
theorem dX11_isBetter_12 : decode cX11_isBetter 12 = .ok (.iload 5, 2) := by decide +kernel
theorem dX11_isBetter_14 : decode cX11_isBetter 14 = .ok (.ifCond .ne 10, 3) := by decide +kernel
theorem dX11_isBetter_17 : decode cX11_isBetter 17 = .ok (.iload_n 1, 1) := by decide +kernel
theorem dX11_isBetter_18 : decode cX11_isBetter 18 = .ok (.bipush 16, 2) := by decide +kernel
theorem dX11_isBetter_20 : decode cX11_isBetter 20 = .ok (.idiv, 1) := by decide +kernel
theorem dX11_isBetter_21 : decode cX11_isBetter 21 = .ok (.goto 20, 3) := by decide +kernel
theorem dX11_isBetter_24 : decode cX11_isBetter 24 = .ok (.iload 5, 2) := by decide +kernel
theorem dX11_isBetter_26 : decode cX11_isBetter 26 = .ok (.iconst 1, 1) := by decide +kernel
theorem dX11_isBetter_27 : decode cX11_isBetter 27 = .ok (.if_icmp .ne 11, 3) := by decide +kernel
theorem dX11_isBetter_30 : decode cX11_isBetter 30 = .ok (.iload_n 1, 1) := by decide +kernel
theorem dX11_isBetter_31 : decode cX11_isBetter 31 = .ok (.iconst 4, 1) := by decide +kernel
theorem dX11_isBetter_32 : decode cX11_isBetter 32 = .ok (.idiv, 1) := by decide +kernel
theorem dX11_isBetter_33 : decode cX11_isBetter 33 = .ok (.iconst 4, 1) := by decide +kernel
theorem dX11_isBetter_34 : decode cX11_isBetter 34 = .ok (.irem, 1) := by decide +kernel
theorem dX11_isBetter_35 : decode cX11_isBetter 35 = .ok (.goto 6, 3) := by decide +kernel
theorem dX11_isBetter_38 : decode cX11_isBetter 38 = .ok (.iload_n 1, 1) := by decide +kernel
theorem dX11_isBetter_39 : decode cX11_isBetter 39 = .ok (.iconst 4, 1) := by decide +kernel
theorem dX11_isBetter_40 : decode cX11_isBetter 40 = .ok (.irem, 1) := by decide +kernel
theorem dX11_isBetter_41 : decode cX11_isBetter 41 = .ok (.istore 6, 2) := by decide +kernel
theorem dX11_isBetter_43 : decode cX11_isBetter 43 = .ok (.iload 4, 2) := by decide +kernel
theorem dX11_isBetter_45 : decode cX11_isBetter 45 = .ok (.iload 6, 2) := by decide +kernel
theorem dX11_isBetter_47 : decode cX11_isBetter 47 = .ok (.aload_n 0, 1) := by decide +kernel
theorem dX11_isBetter_48 : decode cX11_isBetter 48 = .ok (.getfield 16, 3) := by decide +kernel
theorem dX11_isBetter_51 : decode cX11_isBetter 51 = .ok (.iconst 4, 1) := by decide +kernel
theorem dX11_isBetter_52 : decode cX11_isBetter 52 = .ok (.iload_n 2, 1) := by decide +kernel
theorem dX11_isBetter_53 : decode cX11_isBetter 53 = .ok (.imul, 1) := by decide +kernel
theorem dX11_isBetter_54 : decode cX11_isBetter 54 = .ok (.iload 5, 2) := by decide +kernel
theorem dX11_isBetter_56 : decode cX11_isBetter 56 = .ok (.iadd, 1) := by decide +kernel
theorem dX11_isBetter_57 : decode cX11_isBetter 57 = .ok (.iaload, 1) := by decide +kernel
theorem dX11_isBetter_58 : decode cX11_isBetter 58 = .ok (.aload_n 0, 1) := by decide +kernel
theorem dX11_isBetter_59 : decode cX11_isBetter 59 = .ok (.getfield 16, 3) := by decide +kernel
theorem dX11_isBetter_62 : decode cX11_isBetter 62 = .ok (.iconst 4, 1) := by decide +kernel
theorem dX11_isBetter_63 : decode cX11_isBetter 63 = .ok (.iload_n 3, 1) := by decide +kernel
theorem dX11_isBetter_64 : decode cX11_isBetter 64 = .ok (.imul, 1) := by decide +kernel
theorem dX11_isBetter_65 : decode cX11_isBetter 65 = .ok (.iload 5, 2) := by decide +kernel
theorem dX11_isBetter_67 : decode cX11_isBetter 67 = .ok (.iadd, 1) := by decide +kernel
theorem dX11_isBetter_68 : decode cX11_isBetter 68 = .ok (.iaload, 1) := by decide +kernel
theorem dX11_isBetter_69 : decode cX11_isBetter 69 = .ok (.isub, 1) := by decide +kernel
theorem dX11_isBetter_70 : decode cX11_isBetter 70 = .ok (.imul, 1) := by decide +kernel
theorem dX11_isBetter_71 : decode cX11_isBetter 71 = .ok (.iadd, 1) := by decide +kernel
theorem dX11_isBetter_72 : decode cX11_isBetter 72 = .ok (.istore 4, 2) := by decide +kernel
theorem dX11_isBetter_74 : decode cX11_isBetter 74 = .ok (.iinc 5 1, 3) := by decide +kernel
theorem dX11_isBetter_77 : decode cX11_isBetter 77 = .ok (.goto (-71), 3) := by decide +kernel
theorem dX11_isBetter_80 : decode cX11_isBetter 80 = .ok (.iload 4, 2) := by decide +kernel
theorem dX11_isBetter_82 : decode cX11_isBetter 82 = .ok (.ifCond .gt 13, 3) := by decide +kernel
theorem dX11_isBetter_85 : decode cX11_isBetter 85 = .ok (.iload 4, 2) := by decide +kernel
theorem dX11_isBetter_87 : decode cX11_isBetter 87 = .ok (.ifCond .ne 12, 3) := by decide +kernel
theorem dX11_isBetter_90 : decode cX11_isBetter 90 = .ok (.iload_n 2, 1) := by decide +kernel
theorem dX11_isBetter_91 : decode cX11_isBetter 91 = .ok (.iload_n 3, 1) := by decide +kernel
theorem dX11_isBetter_92 : decode cX11_isBetter 92 = .ok (.if_icmp .ge 7, 3) := by decide +kernel
theorem dX11_isBetter_95 : decode cX11_isBetter 95 = .ok (.iconst 1, 1) := by decide +kernel
theorem dX11_isBetter_96 : decode cX11_isBetter 96 = .ok (.goto 4, 3) := by decide +kernel
theorem dX11_isBetter_99 : decode cX11_isBetter 99 = .ok (.iconst 0, 1) := by decide +kernel
theorem dX11_isBetter_100 : decode cX11_isBetter 100 = .ok (.ireturn, 1) := by decide +kernel
theorem dX11_isLearnt_0 : decode cX11_isLearnt 0 = .ok (.iconst 1, 1) := by decide +kernel
theorem dX11_isLearnt_1 : decode cX11_isLearnt 1 = .ok (.istore_n 2, 1) := by decide +kernel
theorem dX11_isLearnt_2 : decode cX11_isLearnt 2 = .ok (.iconst 0, 1) := by decide +kernel
theorem dX11_isLearnt_3 : decode cX11_isLearnt 3 = .ok (.istore_n 3, 1) := by decide +kernel
theorem dX11_isLearnt_4 : decode cX11_isLearnt 4 = .ok (.iload_n 3, 1) := by decide +kernel
theorem dX11_isLearnt_5 : decode cX11_isLearnt 5 = .ok (.aload_n 0, 1) := by decide +kernel
theorem dX11_isLearnt_6 : decode cX11_isLearnt 6 = .ok (.getfield 143, 3) := by decide +kernel
theorem dX11_isLearnt_9 : decode cX11_isLearnt 9 = .ok (.if_icmp .ge 65, 3) := by decide +kernel
theorem dX11_isLearnt_12 : decode cX11_isLearnt 12 = .ok (.iload_n 2, 1) := by decide +kernel
theorem dX11_isLearnt_13 : decode cX11_isLearnt 13 = .ok (.ifCond .eq 61, 3) := by decide +kernel
theorem dX11_isLearnt_16 : decode cX11_isLearnt 16 = .ok (.aload_n 0, 1) := by decide +kernel
theorem dX11_isLearnt_17 : decode cX11_isLearnt 17 = .ok (.aload_n 0, 1) := by decide +kernel
theorem dX11_isLearnt_18 : decode cX11_isLearnt 18 = .ok (.getfield 38, 3) := by decide +kernel
theorem dX11_isLearnt_21 : decode cX11_isLearnt 21 = .ok (.iload_n 3, 1) := by decide +kernel
theorem dX11_isLearnt_22 : decode cX11_isLearnt 22 = .ok (.iaload, 1) := by decide +kernel
theorem dX11_isLearnt_23 : decode cX11_isLearnt 23 = .ok (.invokevirtual 153, 3) := by decide +kernel
theorem dX11_isLearnt_26 : decode cX11_isLearnt 26 = .ok (.ifCond .ne 36, 3) := by decide +kernel
theorem dX11_isLearnt_29 : decode cX11_isLearnt 29 = .ok (.aload_n 0, 1) := by decide +kernel
theorem dX11_isLearnt_30 : decode cX11_isLearnt 30 = .ok (.aload_n 0, 1) := by decide +kernel
theorem dX11_isLearnt_31 : decode cX11_isLearnt 31 = .ok (.getfield 41, 3) := by decide +kernel
theorem dX11_isLearnt_34 : decode cX11_isLearnt 34 = .ok (.iload_n 3, 1) := by decide +kernel
theorem dX11_isLearnt_35 : decode cX11_isLearnt 35 = .ok (.iaload, 1) := by decide +kernel
theorem dX11_isLearnt_36 : decode cX11_isLearnt 36 = .ok (.invokevirtual 153, 3) := by decide +kernel
theorem dX11_isLearnt_39 : decode cX11_isLearnt 39 = .ok (.ifCond .ne 23, 3) := by decide +kernel
theorem dX11_isLearnt_42 : decode cX11_isLearnt 42 = .ok (.aload_n 0, 1) := by decide +kernel
theorem dX11_isLearnt_43 : decode cX11_isLearnt 43 = .ok (.iload_n 1, 1) := by decide +kernel
theorem dX11_isLearnt_44 : decode cX11_isLearnt 44 = .ok (.aload_n 0, 1) := by decide +kernel
theorem dX11_isLearnt_45 : decode cX11_isLearnt 45 = .ok (.getfield 38, 3) := by decide +kernel
theorem dX11_isLearnt_48 : decode cX11_isLearnt 48 = .ok (.iload_n 3, 1) := by decide +kernel
theorem dX11_isLearnt_49 : decode cX11_isLearnt 49 = .ok (.iaload, 1) := by decide +kernel
theorem dX11_isLearnt_50 : decode cX11_isLearnt 50 = .ok (.aload_n 0, 1) := by decide +kernel
theorem dX11_isLearnt_51 : decode cX11_isLearnt 51 = .ok (.getfield 41, 3) := by decide +kernel
theorem dX11_isLearnt_54 : decode cX11_isLearnt 54 = .ok (.iload_n 3, 1) := by decide +kernel
theorem dX11_isLearnt_55 : decode cX11_isLearnt 55 = .ok (.iaload, 1) := by decide +kernel
theorem dX11_isLearnt_56 : decode cX11_isLearnt 56 = .ok (.invokevirtual 213, 3) := by decide +kernel
theorem dX11_isLearnt_59 : decode cX11_isLearnt 59 = .ok (.ifCond .eq 7, 3) := by decide +kernel
theorem dX11_isLearnt_62 : decode cX11_isLearnt 62 = .ok (.iconst 1, 1) := by decide +kernel
theorem dX11_isLearnt_63 : decode cX11_isLearnt 63 = .ok (.goto 4, 3) := by decide +kernel
theorem dX11_isLearnt_66 : decode cX11_isLearnt 66 = .ok (.iconst 0, 1) := by decide +kernel
theorem dX11_isLearnt_67 : decode cX11_isLearnt 67 = .ok (.istore_n 2, 1) := by decide +kernel
theorem dX11_isLearnt_68 : decode cX11_isLearnt 68 = .ok (.iinc 3 1, 3) := by decide +kernel
theorem dX11_isLearnt_71 : decode cX11_isLearnt 71 = .ok (.goto (-67), 3) := by decide +kernel
theorem dX11_isLearnt_74 : decode cX11_isLearnt 74 = .ok (.iload_n 2, 1) := by decide +kernel
theorem dX11_isLearnt_75 : decode cX11_isLearnt 75 = .ok (.ireturn, 1) := by decide +kernel
theorem dX11_learnt_0 : decode cX11_learnt 0 = .ok (.aload_n 0, 1) := by decide +kernel
theorem dX11_learnt_1 : decode cX11_learnt 1 = .ok (.iconst 0, 1) := by decide +kernel
theorem dX11_learnt_2 : decode cX11_learnt 2 = .ok (.putfield 56, 3) := by decide +kernel
theorem dX11_learnt_5 : decode cX11_learnt 5 = .ok (.iload_n 1, 1) := by decide +kernel
theorem dX11_learnt_6 : decode cX11_learnt 6 = .ok (.i2l, 1) := by decide +kernel
theorem dX11_learnt_7 : decode cX11_learnt 7 = .ok (.lconst 0, 1) := by decide +kernel
theorem dX11_learnt_8 : decode cX11_learnt 8 = .ok (.lconst 1, 1) := by decide +kernel
theorem dX11_learnt_9 : decode cX11_learnt 9 = .ok (.invokestatic 63, 3) := by decide +kernel
theorem dX11_learnt_12 : decode cX11_learnt 12 = .ok (.ifCond .ne 6, 3) := by decide +kernel
theorem dX11_learnt_15 : decode cX11_learnt 15 = .ok (.bipush (-2), 2) := by decide +kernel
theorem dX11_learnt_17 : decode cX11_learnt 17 = .ok (.ireturn, 1) := by decide +kernel
theorem dX11_learnt_18 : decode cX11_learnt 18 = .ok (.iconst 0, 1) := by decide +kernel
theorem dX11_learnt_19 : decode cX11_learnt 19 = .ok (.istore_n 2, 1) := by decide +kernel
theorem dX11_learnt_20 : decode cX11_learnt 20 = .ok (.bipush (-9), 2) := by decide +kernel
theorem dX11_learnt_22 : decode cX11_learnt 22 = .ok (.istore_n 3, 1) := by decide +kernel
theorem dX11_learnt_23 : decode cX11_learnt 23 = .ok (.iconst 0, 1) := by decide +kernel
theorem dX11_learnt_24 : decode cX11_learnt 24 = .ok (.istore 4, 2) := by decide +kernel
theorem dX11_learnt_26 : decode cX11_learnt 26 = .ok (.iload 4, 2) := by decide +kernel
theorem dX11_learnt_28 : decode cX11_learnt 28 = .ok (.bipush 64, 2) := by decide +kernel
theorem dX11_learnt_30 : decode cX11_learnt 30 = .ok (.if_icmp .ge 53, 3) := by decide +kernel
theorem dX11_learnt_33 : decode cX11_learnt 33 = .ok (.aload_n 0, 1) := by decide +kernel
theorem dX11_learnt_34 : decode cX11_learnt 34 = .ok (.iload 4, 2) := by decide +kernel
theorem dX11_learnt_36 : decode cX11_learnt 36 = .ok (.invokevirtual 216, 3) := by decide +kernel
theorem dX11_learnt_39 : decode cX11_learnt 39 = .ok (.ifCond .eq 38, 3) := by decide +kernel
theorem dX11_learnt_42 : decode cX11_learnt 42 = .ok (.iload_n 2, 1) := by decide +kernel
theorem dX11_learnt_43 : decode cX11_learnt 43 = .ok (.ifCond .ne 29, 3) := by decide +kernel
theorem dX11_learnt_46 : decode cX11_learnt 46 = .ok (.bipush 100, 2) := by decide +kernel
theorem dX11_learnt_48 : decode cX11_learnt 48 = .ok (.iload 4, 2) := by decide +kernel
theorem dX11_learnt_50 : decode cX11_learnt 50 = .ok (.bipush 16, 2) := by decide +kernel
theorem dX11_learnt_52 : decode cX11_learnt 52 = .ok (.idiv, 1) := by decide +kernel
theorem dX11_learnt_53 : decode cX11_learnt 53 = .ok (.imul, 1) := by decide +kernel
theorem dX11_learnt_54 : decode cX11_learnt 54 = .ok (.bipush 10, 2) := by decide +kernel
theorem dX11_learnt_56 : decode cX11_learnt 56 = .ok (.iload 4, 2) := by decide +kernel
theorem dX11_learnt_58 : decode cX11_learnt 58 = .ok (.iconst 4, 1) := by decide +kernel
theorem dX11_learnt_59 : decode cX11_learnt 59 = .ok (.idiv, 1) := by decide +kernel
theorem dX11_learnt_60 : decode cX11_learnt 60 = .ok (.iconst 4, 1) := by decide +kernel
theorem dX11_learnt_61 : decode cX11_learnt 61 = .ok (.irem, 1) := by decide +kernel
theorem dX11_learnt_62 : decode cX11_learnt 62 = .ok (.imul, 1) := by decide +kernel
theorem dX11_learnt_63 : decode cX11_learnt 63 = .ok (.iadd, 1) := by decide +kernel
theorem dX11_learnt_64 : decode cX11_learnt 64 = .ok (.iload 4, 2) := by decide +kernel
theorem dX11_learnt_66 : decode cX11_learnt 66 = .ok (.iconst 4, 1) := by decide +kernel
theorem dX11_learnt_67 : decode cX11_learnt 67 = .ok (.irem, 1) := by decide +kernel
theorem dX11_learnt_68 : decode cX11_learnt 68 = .ok (.iadd, 1) := by decide +kernel
theorem dX11_learnt_69 : decode cX11_learnt 69 = .ok (.goto 4, 3) := by decide +kernel
theorem dX11_learnt_72 : decode cX11_learnt 72 = .ok (.iload_n 3, 1) := by decide +kernel
theorem dX11_learnt_73 : decode cX11_learnt 73 = .ok (.istore_n 3, 1) := by decide +kernel
theorem dX11_learnt_74 : decode cX11_learnt 74 = .ok (.iinc 2 1, 3) := by decide +kernel
theorem dX11_learnt_77 : decode cX11_learnt 77 = .ok (.iinc 4 1, 3) := by decide +kernel
theorem dX11_learnt_80 : decode cX11_learnt 80 = .ok (.goto (-54), 3) := by decide +kernel
theorem dX11_learnt_83 : decode cX11_learnt 83 = .ok (.iload_n 1, 1) := by decide +kernel
theorem dX11_learnt_84 : decode cX11_learnt 84 = .ok (.ifCond .ne 7, 3) := by decide +kernel
theorem dX11_learnt_87 : decode cX11_learnt 87 = .ok (.iload_n 2, 1) := by decide +kernel
theorem dX11_learnt_88 : decode cX11_learnt 88 = .ok (.goto 4, 3) := by decide +kernel
theorem dX11_learnt_91 : decode cX11_learnt 91 = .ok (.iload_n 3, 1) := by decide +kernel
theorem dX11_learnt_92 : decode cX11_learnt 92 = .ok (.ireturn, 1) := by decide +kernel
theorem dX11_next_0 : decode cX11_next 0 = .ok (.aload_n 0, 1) := by decide +kernel
theorem dX11_next_1 : decode cX11_next 1 = .ok (.iconst 0, 1) := by decide +kernel
theorem dX11_next_2 : decode cX11_next 2 = .ok (.putfield 56, 3) := by decide +kernel
theorem dX11_next_5 : decode cX11_next 5 = .ok (.bipush (-9), 2) := by decide +kernel
theorem dX11_next_7 : decode cX11_next 7 = .ok (.istore_n 1, 1) := by decide +kernel
theorem dX11_next_8 : decode cX11_next 8 = .ok (.sipush 9999, 3) := by decide +kernel
theorem dX11_next_11 : decode cX11_next 11 = .ok (.istore_n 2, 1) := by decide +kernel
theorem dX11_next_12 : decode cX11_next 12 = .ok (.iconst 0, 1) := by decide +kernel
theorem dX11_next_13 : decode cX11_next 13 = .ok (.istore_n 3, 1) := by decide +kernel
theorem dX11_next_14 : decode cX11_next 14 = .ok (.iload_n 3, 1) := by decide +kernel
theorem dX11_next_15 : decode cX11_next 15 = .ok (.aload_n 0, 1) := by decide +kernel
theorem dX11_next_16 : decode cX11_next 16 = .ok (.getfield 67, 3) := by decide +kernel
theorem dX11_next_19 : decode cX11_next 19 = .ok (.if_icmp .ge 151, 3) := by decide +kernel
theorem dX11_next_22 : decode cX11_next 22 = .ok (.iload_n 3, 1) := by decide +kernel
theorem dX11_next_23 : decode cX11_next 23 = .ok (.iconst 1, 1) := by decide +kernel
theorem dX11_next_24 : decode cX11_next 24 = .ok (.iadd, 1) := by decide +kernel
theorem dX11_next_25 : decode cX11_next 25 = .ok (.istore 4, 2) := by decide +kernel
theorem dX11_next_27 : decode cX11_next 27 = .ok (.iload 4, 2) := by decide +kernel
theorem dX11_next_29 : decode cX11_next 29 = .ok (.aload_n 0, 1) := by decide +kernel
theorem dX11_next_30 : decode cX11_next 30 = .ok (.getfield 67, 3) := by decide +kernel
theorem dX11_next_33 : decode cX11_next 33 = .ok (.if_icmp .ge 131, 3) := by decide +kernel
theorem dX11_next_36 : decode cX11_next 36 = .ok (.iconst 0, 1) := by decide +kernel
theorem dX11_next_37 : decode cX11_next 37 = .ok (.istore 5, 2) := by decide +kernel
theorem dX11_next_39 : decode cX11_next 39 = .ok (.iconst 0, 1) := by decide +kernel
theorem dX11_next_40 : decode cX11_next 40 = .ok (.istore 6, 2) := by decide +kernel
theorem dX11_next_42 : decode cX11_next 42 = .ok (.iconst 0, 1) := by decide +kernel
theorem dX11_next_43 : decode cX11_next 43 = .ok (.istore 7, 2) := by decide +kernel
theorem dX11_next_45 : decode cX11_next 45 = .ok (.iload 7, 2) := by decide +kernel
theorem dX11_next_47 : decode cX11_next 47 = .ok (.bipush 64, 2) := by decide +kernel
theorem dX11_next_49 : decode cX11_next 49 = .ok (.if_icmp .ge 71, 3) := by decide +kernel
theorem dX11_next_52 : decode cX11_next 52 = .ok (.aload_n 0, 1) := by decide +kernel
theorem dX11_next_53 : decode cX11_next 53 = .ok (.iload 7, 2) := by decide +kernel
theorem dX11_next_55 : decode cX11_next 55 = .ok (.invokevirtual 216, 3) := by decide +kernel
theorem dX11_next_58 : decode cX11_next 58 = .ok (.istore 8, 2) := by decide +kernel
theorem dX11_next_60 : decode cX11_next 60 = .ok (.iload 5, 2) := by decide +kernel
theorem dX11_next_62 : decode cX11_next 62 = .ok (.iload 8, 2) := by decide +kernel
theorem dX11_next_64 : decode cX11_next 64 = .ok (.ifCond .eq 19, 3) := by decide +kernel
theorem dX11_next_67 : decode cX11_next 67 = .ok (.aload_n 0, 1) := by decide +kernel
theorem dX11_next_68 : decode cX11_next 68 = .ok (.iload 7, 2) := by decide +kernel
theorem dX11_next_70 : decode cX11_next 70 = .ok (.iload_n 3, 1) := by decide +kernel
theorem dX11_next_71 : decode cX11_next 71 = .ok (.iload 4, 2) := by decide +kernel
theorem dX11_next_73 : decode cX11_next 73 = .ok (.invokevirtual 213, 3) := by decide +kernel
theorem dX11_next_76 : decode cX11_next 76 = .ok (.ifCond .eq 7, 3) := by decide +kernel
theorem dX11_next_79 : decode cX11_next 79 = .ok (.iconst 1, 1) := by decide +kernel
theorem dX11_next_80 : decode cX11_next 80 = .ok (.goto 4, 3) := by decide +kernel
theorem dX11_next_83 : decode cX11_next 83 = .ok (.iconst 0, 1) := by decide +kernel
theorem dX11_next_84 : decode cX11_next 84 = .ok (.iadd, 1) := by decide +kernel
theorem dX11_next_85 : decode cX11_next 85 = .ok (.istore 5, 2) := by decide +kernel
theorem dX11_next_87 : decode cX11_next 87 = .ok (.iload 6, 2) := by decide +kernel
theorem dX11_next_89 : decode cX11_next 89 = .ok (.iload 8, 2) := by decide +kernel
theorem dX11_next_91 : decode cX11_next 91 = .ok (.ifCond .eq 19, 3) := by decide +kernel
theorem dX11_next_94 : decode cX11_next 94 = .ok (.aload_n 0, 1) := by decide +kernel
theorem dX11_next_95 : decode cX11_next 95 = .ok (.iload 7, 2) := by decide +kernel
theorem dX11_next_97 : decode cX11_next 97 = .ok (.iload_n 3, 1) := by decide +kernel
theorem dX11_next_98 : decode cX11_next 98 = .ok (.iload 4, 2) := by decide +kernel
theorem dX11_next_100 : decode cX11_next 100 = .ok (.invokevirtual 213, 3) := by decide +kernel
theorem dX11_next_103 : decode cX11_next 103 = .ok (.ifCond .ne 7, 3) := by decide +kernel
theorem dX11_next_106 : decode cX11_next 106 = .ok (.iconst 1, 1) := by decide +kernel
theorem dX11_next_107 : decode cX11_next 107 = .ok (.goto 4, 3) := by decide +kernel
theorem dX11_next_110 : decode cX11_next 110 = .ok (.iconst 0, 1) := by decide +kernel
theorem dX11_next_111 : decode cX11_next 111 = .ok (.iadd, 1) := by decide +kernel
theorem dX11_next_112 : decode cX11_next 112 = .ok (.istore 6, 2) := by decide +kernel
theorem dX11_next_114 : decode cX11_next 114 = .ok (.iinc 7 1, 3) := by decide +kernel
theorem dX11_next_117 : decode cX11_next 117 = .ok (.goto (-72), 3) := by decide +kernel
theorem dX11_next_120 : decode cX11_next 120 = .ok (.iload 5, 2) := by decide +kernel
theorem dX11_next_122 : decode cX11_next 122 = .ok (.iload 6, 2) := by decide +kernel
theorem dX11_next_124 : decode cX11_next 124 = .ok (.if_icmp .le 8, 3) := by decide +kernel
theorem dX11_next_127 : decode cX11_next 127 = .ok (.iload 5, 2) := by decide +kernel
theorem dX11_next_129 : decode cX11_next 129 = .ok (.goto 5, 3) := by decide +kernel
theorem dX11_next_132 : decode cX11_next 132 = .ok (.iload 6, 2) := by decide +kernel
theorem dX11_next_134 : decode cX11_next 134 = .ok (.istore 7, 2) := by decide +kernel
theorem dX11_next_136 : decode cX11_next 136 = .ok (.iload 7, 2) := by decide +kernel
theorem dX11_next_138 : decode cX11_next 138 = .ok (.ifCond .le 20, 3) := by decide +kernel
theorem dX11_next_141 : decode cX11_next 141 = .ok (.iload 7, 2) := by decide +kernel
theorem dX11_next_143 : decode cX11_next 143 = .ok (.iload_n 2, 1) := by decide +kernel
theorem dX11_next_144 : decode cX11_next 144 = .ok (.if_icmp .ge 14, 3) := by decide +kernel
theorem dX11_next_147 : decode cX11_next 147 = .ok (.iload 7, 2) := by decide +kernel
theorem dX11_next_149 : decode cX11_next 149 = .ok (.istore_n 2, 1) := by decide +kernel
theorem dX11_next_150 : decode cX11_next 150 = .ok (.bipush 10, 2) := by decide +kernel
theorem dX11_next_152 : decode cX11_next 152 = .ok (.iload_n 3, 1) := by decide +kernel
theorem dX11_next_153 : decode cX11_next 153 = .ok (.imul, 1) := by decide +kernel
theorem dX11_next_154 : decode cX11_next 154 = .ok (.iload 4, 2) := by decide +kernel
theorem dX11_next_156 : decode cX11_next 156 = .ok (.iadd, 1) := by decide +kernel
theorem dX11_next_157 : decode cX11_next 157 = .ok (.istore_n 1, 1) := by decide +kernel
theorem dX11_next_158 : decode cX11_next 158 = .ok (.iinc 4 1, 3) := by decide +kernel
theorem dX11_next_161 : decode cX11_next 161 = .ok (.goto (-134), 3) := by decide +kernel
theorem dX11_next_164 : decode cX11_next 164 = .ok (.iinc 3 1, 3) := by decide +kernel
theorem dX11_next_167 : decode cX11_next 167 = .ok (.goto (-153), 3) := by decide +kernel
theorem dX11_next_170 : decode cX11_next 170 = .ok (.iload_n 1, 1) := by decide +kernel
theorem dX11_next_171 : decode cX11_next 171 = .ok (.ireturn, 1) := by decide +kernel
theorem dX11_gain_0 : decode cX11_gain 0 = .ok (.iload_n 0, 1) := by decide +kernel
theorem dX11_gain_1 : decode cX11_gain 1 = .ok (.iconst 5, 1) := by decide +kernel
theorem dX11_gain_2 : decode cX11_gain 2 = .ok (.iload_n 1, 1) := by decide +kernel
theorem dX11_gain_3 : decode cX11_gain 3 = .ok (.imul, 1) := by decide +kernel
theorem dX11_gain_4 : decode cX11_gain 4 = .ok (.iadd, 1) := by decide +kernel
theorem dX11_gain_5 : decode cX11_gain 5 = .ok (.iload_n 2, 1) := by decide +kernel
theorem dX11_gain_6 : decode cX11_gain 6 = .ok (.isub, 1) := by decide +kernel
theorem dX11_gain_7 : decode cX11_gain 7 = .ok (.iconst 5, 1) := by decide +kernel
theorem dX11_gain_8 : decode cX11_gain 8 = .ok (.iload_n 3, 1) := by decide +kernel
theorem dX11_gain_9 : decode cX11_gain 9 = .ok (.imul, 1) := by decide +kernel
theorem dX11_gain_10 : decode cX11_gain 10 = .ok (.isub, 1) := by decide +kernel
theorem dX11_gain_11 : decode cX11_gain 11 = .ok (.istore 5, 2) := by decide +kernel
theorem dX11_gain_13 : decode cX11_gain 13 = .ok (.iload 5, 2) := by decide +kernel
theorem dX11_gain_15 : decode cX11_gain 15 = .ok (.ifCond .gt 13, 3) := by decide +kernel
theorem dX11_gain_18 : decode cX11_gain 18 = .ok (.iload 5, 2) := by decide +kernel
theorem dX11_gain_20 : decode cX11_gain 20 = .ok (.ifCond .ne 13, 3) := by decide +kernel
theorem dX11_gain_23 : decode cX11_gain 23 = .ok (.iload 4, 2) := by decide +kernel
theorem dX11_gain_25 : decode cX11_gain 25 = .ok (.ifCond .eq 8, 3) := by decide +kernel
theorem dX11_gain_28 : decode cX11_gain 28 = .ok (.bipush 6, 2) := by decide +kernel
theorem dX11_gain_30 : decode cX11_gain 30 = .ok (.goto 4, 3) := by decide +kernel
theorem dX11_gain_33 : decode cX11_gain 33 = .ok (.iconst 0, 1) := by decide +kernel
theorem dX11_gain_34 : decode cX11_gain 34 = .ok (.iload_n 1, 1) := by decide +kernel
theorem dX11_gain_35 : decode cX11_gain 35 = .ok (.isub, 1) := by decide +kernel
theorem dX11_gain_36 : decode cX11_gain 36 = .ok (.ireturn, 1) := by decide +kernel
theorem dX11_oats_0 : decode cX11_oats 0 = .ok (.aload_n 0, 1) := by decide +kernel
theorem dX11_oats_1 : decode cX11_oats 1 = .ok (.iconst 0, 1) := by decide +kernel
theorem dX11_oats_2 : decode cX11_oats 2 = .ok (.putfield 56, 3) := by decide +kernel
theorem dX11_oats_5 : decode cX11_oats 5 = .ok (.aload_n 0, 1) := by decide +kernel
theorem dX11_oats_6 : decode cX11_oats 6 = .ok (.iload_n 1, 1) := by decide +kernel
theorem dX11_oats_7 : decode cX11_oats 7 = .ok (.invokevirtual 149, 3) := by decide +kernel
theorem dX11_oats_10 : decode cX11_oats 10 = .ok (.ifCond .ne 19, 3) := by decide +kernel
theorem dX11_oats_13 : decode cX11_oats 13 = .ok (.aload_n 0, 1) := by decide +kernel
theorem dX11_oats_14 : decode cX11_oats 14 = .ok (.iload_n 2, 1) := by decide +kernel
theorem dX11_oats_15 : decode cX11_oats 15 = .ok (.invokevirtual 153, 3) := by decide +kernel
theorem dX11_oats_18 : decode cX11_oats 18 = .ok (.ifCond .ne 11, 3) := by decide +kernel
theorem dX11_oats_21 : decode cX11_oats 21 = .ok (.aload_n 0, 1) := by decide +kernel
theorem dX11_oats_22 : decode cX11_oats 22 = .ok (.iload_n 3, 1) := by decide +kernel
theorem dX11_oats_23 : decode cX11_oats 23 = .ok (.invokevirtual 153, 3) := by decide +kernel
theorem dX11_oats_26 : decode cX11_oats 26 = .ok (.ifCond .eq 5, 3) := by decide +kernel
theorem dX11_oats_29 : decode cX11_oats 29 = .ok (.iconst (-1), 1) := by decide +kernel
theorem dX11_oats_30 : decode cX11_oats 30 = .ok (.ireturn, 1) := by decide +kernel
theorem dX11_oats_31 : decode cX11_oats 31 = .ok (.iload_n 2, 1) := by decide +kernel
theorem dX11_oats_32 : decode cX11_oats 32 = .ok (.iload_n 3, 1) := by decide +kernel
theorem dX11_oats_33 : decode cX11_oats 33 = .ok (.if_icmp .eq 14, 3) := by decide +kernel
theorem dX11_oats_36 : decode cX11_oats 36 = .ok (.iload 4, 2) := by decide +kernel
theorem dX11_oats_38 : decode cX11_oats 38 = .ok (.i2l, 1) := by decide +kernel
theorem dX11_oats_39 : decode cX11_oats 39 = .ok (.lconst 0, 1) := by decide +kernel
theorem dX11_oats_40 : decode cX11_oats 40 = .ok (.lconst 1, 1) := by decide +kernel
theorem dX11_oats_41 : decode cX11_oats 41 = .ok (.invokestatic 63, 3) := by decide +kernel
theorem dX11_oats_44 : decode cX11_oats 44 = .ok (.ifCond .ne 6, 3) := by decide +kernel
theorem dX11_oats_47 : decode cX11_oats 47 = .ok (.bipush (-2), 2) := by decide +kernel
theorem dX11_oats_49 : decode cX11_oats 49 = .ok (.ireturn, 1) := by decide +kernel
theorem dX11_oats_50 : decode cX11_oats 50 = .ok (.aload_n 0, 1) := by decide +kernel
theorem dX11_oats_51 : decode cX11_oats 51 = .ok (.iload_n 1, 1) := by decide +kernel
theorem dX11_oats_52 : decode cX11_oats 52 = .ok (.iload_n 2, 1) := by decide +kernel
theorem dX11_oats_53 : decode cX11_oats 53 = .ok (.invokevirtual 106, 3) := by decide +kernel
theorem dX11_oats_56 : decode cX11_oats 56 = .ok (.istore 5, 2) := by decide +kernel
theorem dX11_oats_58 : decode cX11_oats 58 = .ok (.aload_n 0, 1) := by decide +kernel
theorem dX11_oats_59 : decode cX11_oats 59 = .ok (.iload_n 1, 1) := by decide +kernel
theorem dX11_oats_60 : decode cX11_oats 60 = .ok (.iload_n 3, 1) := by decide +kernel
theorem dX11_oats_61 : decode cX11_oats 61 = .ok (.invokevirtual 106, 3) := by decide +kernel
theorem dX11_oats_64 : decode cX11_oats 64 = .ok (.istore 6, 2) := by decide +kernel
theorem dX11_oats_66 : decode cX11_oats 66 = .ok (.iconst 0, 1) := by decide +kernel
theorem dX11_oats_67 : decode cX11_oats 67 = .ok (.istore 7, 2) := by decide +kernel
theorem dX11_oats_69 : decode cX11_oats 69 = .ok (.bipush (-9), 2) := by decide +kernel
theorem dX11_oats_71 : decode cX11_oats 71 = .ok (.istore 8, 2) := by decide +kernel
theorem dX11_oats_73 : decode cX11_oats 73 = .ok (.iconst 0, 1) := by decide +kernel
theorem dX11_oats_74 : decode cX11_oats 74 = .ok (.istore 9, 2) := by decide +kernel
theorem dX11_oats_76 : decode cX11_oats 76 = .ok (.iload 9, 2) := by decide +kernel
theorem dX11_oats_78 : decode cX11_oats 78 = .ok (.bipush 6, 2) := by decide +kernel
theorem dX11_oats_80 : decode cX11_oats 80 = .ok (.if_icmp .ge 198, 3) := by decide +kernel
theorem dX11_oats_83 : decode cX11_oats 83 = .ok (.iconst 0, 1) := by decide +kernel
theorem dX11_oats_84 : decode cX11_oats 84 = .ok (.istore 10, 2) := by decide +kernel
theorem dX11_oats_86 : decode cX11_oats 86 = .ok (.iload 10, 2) := by decide +kernel
theorem dX11_oats_88 : decode cX11_oats 88 = .ok (.bipush 6, 2) := by decide +kernel
theorem dX11_oats_90 : decode cX11_oats 90 = .ok (.if_icmp .ge 182, 3) := by decide +kernel
theorem dX11_oats_93 : decode cX11_oats 93 = .ok (.iconst 1, 1) := by decide +kernel
theorem dX11_oats_94 : decode cX11_oats 94 = .ok (.istore 11, 2) := by decide +kernel
theorem dX11_oats_96 : decode cX11_oats 96 = .ok (.iconst 0, 1) := by decide +kernel
theorem dX11_oats_97 : decode cX11_oats 97 = .ok (.istore 12, 2) := by decide +kernel
theorem dX11_oats_99 : decode cX11_oats 99 = .ok (.iload 12, 2) := by decide +kernel
theorem dX11_oats_101 : decode cX11_oats 101 = .ok (.bipush 6, 2) := by decide +kernel
theorem dX11_oats_103 : decode cX11_oats 103 = .ok (.if_icmp .ge 123, 3) := by decide +kernel
theorem dX11_oats_106 : decode cX11_oats 106 = .ok (.iload 11, 2) := by decide +kernel
theorem dX11_oats_108 : decode cX11_oats 108 = .ok (.ifCond .eq 52, 3) := by decide +kernel
theorem dX11_oats_111 : decode cX11_oats 111 = .ok (.iload 5, 2) := by decide +kernel
theorem dX11_oats_113 : decode cX11_oats 113 = .ok (.iload 12, 2) := by decide +kernel
theorem dX11_oats_115 : decode cX11_oats 115 = .ok (.iload 6, 2) := by decide +kernel
theorem dX11_oats_117 : decode cX11_oats 117 = .ok (.iload 10, 2) := by decide +kernel
theorem dX11_oats_119 : decode cX11_oats 119 = .ok (.iload_n 2, 1) := by decide +kernel
theorem dX11_oats_120 : decode cX11_oats 120 = .ok (.iload_n 3, 1) := by decide +kernel
theorem dX11_oats_121 : decode cX11_oats 121 = .ok (.if_icmp .ge 7, 3) := by decide +kernel
theorem dX11_oats_124 : decode cX11_oats 124 = .ok (.iconst 1, 1) := by decide +kernel
theorem dX11_oats_125 : decode cX11_oats 125 = .ok (.goto 4, 3) := by decide +kernel
theorem dX11_oats_128 : decode cX11_oats 128 = .ok (.iconst 0, 1) := by decide +kernel
theorem dX11_oats_129 : decode cX11_oats 129 = .ok (.invokestatic 219, 3) := by decide +kernel
theorem dX11_oats_132 : decode cX11_oats 132 = .ok (.iload 5, 2) := by decide +kernel
theorem dX11_oats_134 : decode cX11_oats 134 = .ok (.iload 9, 2) := by decide +kernel
theorem dX11_oats_136 : decode cX11_oats 136 = .ok (.iload 6, 2) := by decide +kernel
theorem dX11_oats_138 : decode cX11_oats 138 = .ok (.iload 10, 2) := by decide +kernel
theorem dX11_oats_140 : decode cX11_oats 140 = .ok (.iload_n 2, 1) := by decide +kernel
theorem dX11_oats_141 : decode cX11_oats 141 = .ok (.iload_n 3, 1) := by decide +kernel
theorem dX11_oats_142 : decode cX11_oats 142 = .ok (.if_icmp .ge 7, 3) := by decide +kernel
theorem dX11_oats_145 : decode cX11_oats 145 = .ok (.iconst 1, 1) := by decide +kernel
theorem dX11_oats_146 : decode cX11_oats 146 = .ok (.goto 4, 3) := by decide +kernel
theorem dX11_oats_149 : decode cX11_oats 149 = .ok (.iconst 0, 1) := by decide +kernel
theorem dX11_oats_150 : decode cX11_oats 150 = .ok (.invokestatic 219, 3) := by decide +kernel
theorem dX11_oats_153 : decode cX11_oats 153 = .ok (.if_icmp .gt 7, 3) := by decide +kernel
theorem dX11_oats_156 : decode cX11_oats 156 = .ok (.iconst 1, 1) := by decide +kernel
theorem dX11_oats_157 : decode cX11_oats 157 = .ok (.goto 4, 3) := by decide +kernel
theorem dX11_oats_160 : decode cX11_oats 160 = .ok (.iconst 0, 1) := by decide +kernel
theorem dX11_oats_161 : decode cX11_oats 161 = .ok (.istore 11, 2) := by decide +kernel
theorem dX11_oats_163 : decode cX11_oats 163 = .ok (.iload 11, 2) := by decide +kernel
theorem dX11_oats_165 : decode cX11_oats 165 = .ok (.ifCond .eq 52, 3) := by decide +kernel
theorem dX11_oats_168 : decode cX11_oats 168 = .ok (.iload 6, 2) := by decide +kernel
theorem dX11_oats_170 : decode cX11_oats 170 = .ok (.iload 12, 2) := by decide +kernel
theorem dX11_oats_172 : decode cX11_oats 172 = .ok (.iload 5, 2) := by decide +kernel
theorem dX11_oats_174 : decode cX11_oats 174 = .ok (.iload 9, 2) := by decide +kernel
theorem dX11_oats_176 : decode cX11_oats 176 = .ok (.iload_n 3, 1) := by decide +kernel
theorem dX11_oats_177 : decode cX11_oats 177 = .ok (.iload_n 2, 1) := by decide +kernel
theorem dX11_oats_178 : decode cX11_oats 178 = .ok (.if_icmp .ge 7, 3) := by decide +kernel
theorem dX11_oats_181 : decode cX11_oats 181 = .ok (.iconst 1, 1) := by decide +kernel
theorem dX11_oats_182 : decode cX11_oats 182 = .ok (.goto 4, 3) := by decide +kernel
theorem dX11_oats_185 : decode cX11_oats 185 = .ok (.iconst 0, 1) := by decide +kernel
theorem dX11_oats_186 : decode cX11_oats 186 = .ok (.invokestatic 219, 3) := by decide +kernel
theorem dX11_oats_189 : decode cX11_oats 189 = .ok (.iload 6, 2) := by decide +kernel
theorem dX11_oats_191 : decode cX11_oats 191 = .ok (.iload 10, 2) := by decide +kernel
theorem dX11_oats_193 : decode cX11_oats 193 = .ok (.iload 5, 2) := by decide +kernel
theorem dX11_oats_195 : decode cX11_oats 195 = .ok (.iload 9, 2) := by decide +kernel
theorem dX11_oats_197 : decode cX11_oats 197 = .ok (.iload_n 3, 1) := by decide +kernel
theorem dX11_oats_198 : decode cX11_oats 198 = .ok (.iload_n 2, 1) := by decide +kernel
theorem dX11_oats_199 : decode cX11_oats 199 = .ok (.if_icmp .ge 7, 3) := by decide +kernel
theorem dX11_oats_202 : decode cX11_oats 202 = .ok (.iconst 1, 1) := by decide +kernel
theorem dX11_oats_203 : decode cX11_oats 203 = .ok (.goto 4, 3) := by decide +kernel
theorem dX11_oats_206 : decode cX11_oats 206 = .ok (.iconst 0, 1) := by decide +kernel
theorem dX11_oats_207 : decode cX11_oats 207 = .ok (.invokestatic 219, 3) := by decide +kernel
theorem dX11_oats_210 : decode cX11_oats 210 = .ok (.if_icmp .gt 7, 3) := by decide +kernel
theorem dX11_oats_213 : decode cX11_oats 213 = .ok (.iconst 1, 1) := by decide +kernel
theorem dX11_oats_214 : decode cX11_oats 214 = .ok (.goto 4, 3) := by decide +kernel
theorem dX11_oats_217 : decode cX11_oats 217 = .ok (.iconst 0, 1) := by decide +kernel
theorem dX11_oats_218 : decode cX11_oats 218 = .ok (.istore 11, 2) := by decide +kernel
theorem dX11_oats_220 : decode cX11_oats 220 = .ok (.iinc 12 1, 3) := by decide +kernel
theorem dX11_oats_223 : decode cX11_oats 223 = .ok (.goto (-124), 3) := by decide +kernel
theorem dX11_oats_226 : decode cX11_oats 226 = .ok (.iload 11, 2) := by decide +kernel
theorem dX11_oats_228 : decode cX11_oats 228 = .ok (.ifCond .eq 19, 3) := by decide +kernel
theorem dX11_oats_231 : decode cX11_oats 231 = .ok (.iload 7, 2) := by decide +kernel
theorem dX11_oats_233 : decode cX11_oats 233 = .ok (.ifCond .ne 14, 3) := by decide +kernel
theorem dX11_oats_236 : decode cX11_oats 236 = .ok (.bipush 10, 2) := by decide +kernel
theorem dX11_oats_238 : decode cX11_oats 238 = .ok (.iload 9, 2) := by decide +kernel
theorem dX11_oats_240 : decode cX11_oats 240 = .ok (.imul, 1) := by decide +kernel
theorem dX11_oats_241 : decode cX11_oats 241 = .ok (.iload 10, 2) := by decide +kernel
theorem dX11_oats_243 : decode cX11_oats 243 = .ok (.iadd, 1) := by decide +kernel
theorem dX11_oats_244 : decode cX11_oats 244 = .ok (.goto 5, 3) := by decide +kernel
theorem dX11_oats_247 : decode cX11_oats 247 = .ok (.iload 8, 2) := by decide +kernel
theorem dX11_oats_249 : decode cX11_oats 249 = .ok (.istore 8, 2) := by decide +kernel
theorem dX11_oats_251 : decode cX11_oats 251 = .ok (.iload 7, 2) := by decide +kernel
theorem dX11_oats_253 : decode cX11_oats 253 = .ok (.iload 11, 2) := by decide +kernel
theorem dX11_oats_255 : decode cX11_oats 255 = .ok (.ifCond .eq 7, 3) := by decide +kernel
theorem dX11_oats_258 : decode cX11_oats 258 = .ok (.iconst 1, 1) := by decide +kernel
theorem dX11_oats_259 : decode cX11_oats 259 = .ok (.goto 4, 3) := by decide +kernel
theorem dX11_oats_262 : decode cX11_oats 262 = .ok (.iconst 0, 1) := by decide +kernel
theorem dX11_oats_263 : decode cX11_oats 263 = .ok (.iadd, 1) := by decide +kernel
theorem dX11_oats_264 : decode cX11_oats 264 = .ok (.istore 7, 2) := by decide +kernel
theorem dX11_oats_266 : decode cX11_oats 266 = .ok (.iinc 10 1, 3) := by decide +kernel
theorem dX11_oats_269 : decode cX11_oats 269 = .ok (.goto (-183), 3) := by decide +kernel
theorem dX11_oats_272 : decode cX11_oats 272 = .ok (.iinc 9 1, 3) := by decide +kernel
theorem dX11_oats_275 : decode cX11_oats 275 = .ok (.goto (-199), 3) := by decide +kernel
theorem dX11_oats_278 : decode cX11_oats 278 = .ok (.iload 4, 2) := by decide +kernel
theorem dX11_oats_280 : decode cX11_oats 280 = .ok (.ifCond .ne 8, 3) := by decide +kernel
theorem dX11_oats_283 : decode cX11_oats 283 = .ok (.iload 7, 2) := by decide +kernel
theorem dX11_oats_285 : decode cX11_oats 285 = .ok (.goto 5, 3) := by decide +kernel
theorem dX11_oats_288 : decode cX11_oats 288 = .ok (.iload 8, 2) := by decide +kernel
theorem dX11_oats_290 : decode cX11_oats 290 = .ok (.ireturn, 1) := by decide +kernel
theorem dX11_saddles_0 : decode cX11_saddles 0 = .ok (.aload_n 0, 1) := by decide +kernel
theorem dX11_saddles_1 : decode cX11_saddles 1 = .ok (.iconst 0, 1) := by decide +kernel
theorem dX11_saddles_2 : decode cX11_saddles 2 = .ok (.putfield 56, 3) := by decide +kernel
theorem dX11_saddles_5 : decode cX11_saddles 5 = .ok (.aload_n 0, 1) := by decide +kernel
theorem dX11_saddles_6 : decode cX11_saddles 6 = .ok (.iload_n 1, 1) := by decide +kernel
theorem dX11_saddles_7 : decode cX11_saddles 7 = .ok (.invokevirtual 149, 3) := by decide +kernel
theorem dX11_saddles_10 : decode cX11_saddles 10 = .ok (.ifCond .eq 5, 3) := by decide +kernel
theorem dX11_saddles_13 : decode cX11_saddles 13 = .ok (.iconst (-1), 1) := by decide +kernel
theorem dX11_saddles_14 : decode cX11_saddles 14 = .ok (.ireturn, 1) := by decide +kernel
theorem dX11_saddles_15 : decode cX11_saddles 15 = .ok (.iload_n 2, 1) := by decide +kernel
theorem dX11_saddles_16 : decode cX11_saddles 16 = .ok (.i2l, 1) := by decide +kernel
theorem dX11_saddles_17 : decode cX11_saddles 17 = .ok (.lconst 0, 1) := by decide +kernel
theorem dX11_saddles_18 : decode cX11_saddles 18 = .ok (.ldc2_w 165, 3) := by decide +kernel
theorem dX11_saddles_21 : decode cX11_saddles 21 = .ok (.invokestatic 63, 3) := by decide +kernel
theorem dX11_saddles_24 : decode cX11_saddles 24 = .ok (.ifCond .eq 26, 3) := by decide +kernel
theorem dX11_saddles_27 : decode cX11_saddles 27 = .ok (.iload_n 3, 1) := by decide +kernel
theorem dX11_saddles_28 : decode cX11_saddles 28 = .ok (.i2l, 1) := by decide +kernel
theorem dX11_saddles_29 : decode cX11_saddles 29 = .ok (.lconst 0, 1) := by decide +kernel
theorem dX11_saddles_30 : decode cX11_saddles 30 = .ok (.ldc2_w 223, 3) := by decide +kernel
theorem dX11_saddles_33 : decode cX11_saddles 33 = .ok (.invokestatic 63, 3) := by decide +kernel
theorem dX11_saddles_36 : decode cX11_saddles 36 = .ok (.ifCond .eq 14, 3) := by decide +kernel
theorem dX11_saddles_39 : decode cX11_saddles 39 = .ok (.iload 4, 2) := by decide +kernel
theorem dX11_saddles_41 : decode cX11_saddles 41 = .ok (.i2l, 1) := by decide +kernel
theorem dX11_saddles_42 : decode cX11_saddles 42 = .ok (.lconst 0, 1) := by decide +kernel
theorem dX11_saddles_43 : decode cX11_saddles 43 = .ok (.lconst 1, 1) := by decide +kernel
theorem dX11_saddles_44 : decode cX11_saddles 44 = .ok (.invokestatic 63, 3) := by decide +kernel
theorem dX11_saddles_47 : decode cX11_saddles 47 = .ok (.ifCond .ne 6, 3) := by decide +kernel
theorem dX11_saddles_50 : decode cX11_saddles 50 = .ok (.bipush (-2), 2) := by decide +kernel
theorem dX11_saddles_52 : decode cX11_saddles 52 = .ok (.ireturn, 1) := by decide +kernel
theorem dX11_saddles_53 : decode cX11_saddles 53 = .ok (.iconst 0, 1) := by decide +kernel
theorem dX11_saddles_54 : decode cX11_saddles 54 = .ok (.istore 5, 2) := by decide +kernel
theorem dX11_saddles_56 : decode cX11_saddles 56 = .ok (.aload_n 0, 1) := by decide +kernel
theorem dX11_saddles_57 : decode cX11_saddles 57 = .ok (.invokevirtual 185, 3) := by decide +kernel
theorem dX11_saddles_60 : decode cX11_saddles 60 = .ok (.istore 6, 2) := by decide +kernel
theorem dX11_saddles_62 : decode cX11_saddles 62 = .ok (.iconst 0, 1) := by decide +kernel
theorem dX11_saddles_63 : decode cX11_saddles 63 = .ok (.istore 7, 2) := by decide +kernel
theorem dX11_saddles_65 : decode cX11_saddles 65 = .ok (.iload 7, 2) := by decide +kernel
theorem dX11_saddles_67 : decode cX11_saddles 67 = .ok (.iconst 1, 1) := by decide +kernel
theorem dX11_saddles_68 : decode cX11_saddles 68 = .ok (.aload_n 0, 1) := by decide +kernel
theorem dX11_saddles_69 : decode cX11_saddles 69 = .ok (.getfield 67, 3) := by decide +kernel
theorem dX11_saddles_72 : decode cX11_saddles 72 = .ok (.ishl, 1) := by decide +kernel
theorem dX11_saddles_73 : decode cX11_saddles 73 = .ok (.if_icmp .ge 137, 3) := by decide +kernel
theorem dX11_saddles_76 : decode cX11_saddles 76 = .ok (.iload 7, 2) := by decide +kernel
theorem dX11_saddles_78 : decode cX11_saddles 78 = .ok (.invokestatic 113, 3) := by decide +kernel
theorem dX11_saddles_81 : decode cX11_saddles 81 = .ok (.aload_n 0, 1) := by decide +kernel
theorem dX11_saddles_82 : decode cX11_saddles 82 = .ok (.getfield 13, 3) := by decide +kernel
theorem dX11_saddles_85 : decode cX11_saddles 85 = .ok (.bipush 7, 2) := by decide +kernel
theorem dX11_saddles_87 : decode cX11_saddles 87 = .ok (.iload_n 1, 1) := by decide +kernel
theorem dX11_saddles_88 : decode cX11_saddles 88 = .ok (.imul, 1) := by decide +kernel
theorem dX11_saddles_89 : decode cX11_saddles 89 = .ok (.iaload, 1) := by decide +kernel
theorem dX11_saddles_90 : decode cX11_saddles 90 = .ok (.if_icmp .gt 7, 3) := by decide +kernel
theorem dX11_saddles_93 : decode cX11_saddles 93 = .ok (.iconst 1, 1) := by decide +kernel
theorem dX11_saddles_94 : decode cX11_saddles 94 = .ok (.goto 4, 3) := by decide +kernel
theorem dX11_saddles_97 : decode cX11_saddles 97 = .ok (.iconst 0, 1) := by decide +kernel
theorem dX11_saddles_98 : decode cX11_saddles 98 = .ok (.istore 8, 2) := by decide +kernel
theorem dX11_saddles_100 : decode cX11_saddles 100 = .ok (.iconst 0, 1) := by decide +kernel
theorem dX11_saddles_101 : decode cX11_saddles 101 = .ok (.istore 9, 2) := by decide +kernel
theorem dX11_saddles_103 : decode cX11_saddles 103 = .ok (.iconst 0, 1) := by decide +kernel
theorem dX11_saddles_104 : decode cX11_saddles 104 = .ok (.istore 10, 2) := by decide +kernel
theorem dX11_saddles_106 : decode cX11_saddles 106 = .ok (.iload 10, 2) := by decide +kernel
theorem dX11_saddles_108 : decode cX11_saddles 108 = .ok (.aload_n 0, 1) := by decide +kernel
theorem dX11_saddles_109 : decode cX11_saddles 109 = .ok (.getfield 67, 3) := by decide +kernel
theorem dX11_saddles_112 : decode cX11_saddles 112 = .ok (.if_icmp .ge 71, 3) := by decide +kernel
theorem dX11_saddles_115 : decode cX11_saddles 115 = .ok (.iload 8, 2) := by decide +kernel
theorem dX11_saddles_117 : decode cX11_saddles 117 = .ok (.ifCond .eq 27, 3) := by decide +kernel
theorem dX11_saddles_120 : decode cX11_saddles 120 = .ok (.iload 7, 2) := by decide +kernel
theorem dX11_saddles_122 : decode cX11_saddles 122 = .ok (.iload 10, 2) := by decide +kernel
theorem dX11_saddles_124 : decode cX11_saddles 124 = .ok (.invokestatic 170, 3) := by decide +kernel
theorem dX11_saddles_127 : decode cX11_saddles 127 = .ok (.ifCond .eq 13, 3) := by decide +kernel
theorem dX11_saddles_130 : decode cX11_saddles 130 = .ok (.aload_n 0, 1) := by decide +kernel
theorem dX11_saddles_131 : decode cX11_saddles 131 = .ok (.iload_n 1, 1) := by decide +kernel
theorem dX11_saddles_132 : decode cX11_saddles 132 = .ok (.iload 10, 2) := by decide +kernel
theorem dX11_saddles_134 : decode cX11_saddles 134 = .ok (.invokevirtual 121, 3) := by decide +kernel
theorem dX11_saddles_137 : decode cX11_saddles 137 = .ok (.ifCond .eq 7, 3) := by decide +kernel
theorem dX11_saddles_140 : decode cX11_saddles 140 = .ok (.iconst 1, 1) := by decide +kernel
theorem dX11_saddles_141 : decode cX11_saddles 141 = .ok (.goto 4, 3) := by decide +kernel
theorem dX11_saddles_144 : decode cX11_saddles 144 = .ok (.iconst 0, 1) := by decide +kernel
theorem dX11_saddles_145 : decode cX11_saddles 145 = .ok (.istore 8, 2) := by decide +kernel
theorem dX11_saddles_147 : decode cX11_saddles 147 = .ok (.iload 9, 2) := by decide +kernel
theorem dX11_saddles_149 : decode cX11_saddles 149 = .ok (.iload 7, 2) := by decide +kernel
theorem dX11_saddles_151 : decode cX11_saddles 151 = .ok (.iload 10, 2) := by decide +kernel
theorem dX11_saddles_153 : decode cX11_saddles 153 = .ok (.invokestatic 170, 3) := by decide +kernel
theorem dX11_saddles_156 : decode cX11_saddles 156 = .ok (.ifCond .eq 17, 3) := by decide +kernel
theorem dX11_saddles_159 : decode cX11_saddles 159 = .ok (.aload_n 0, 1) := by decide +kernel
theorem dX11_saddles_160 : decode cX11_saddles 160 = .ok (.getfield 16, 3) := by decide +kernel
theorem dX11_saddles_163 : decode cX11_saddles 163 = .ok (.iconst 4, 1) := by decide +kernel
theorem dX11_saddles_164 : decode cX11_saddles 164 = .ok (.iload 10, 2) := by decide +kernel
theorem dX11_saddles_166 : decode cX11_saddles 166 = .ok (.imul, 1) := by decide +kernel
theorem dX11_saddles_167 : decode cX11_saddles 167 = .ok (.iload_n 2, 1) := by decide +kernel
theorem dX11_saddles_168 : decode cX11_saddles 168 = .ok (.iadd, 1) := by decide +kernel
theorem dX11_saddles_169 : decode cX11_saddles 169 = .ok (.iaload, 1) := by decide +kernel
theorem dX11_saddles_170 : decode cX11_saddles 170 = .ok (.goto 4, 3) := by decide +kernel
theorem dX11_saddles_173 : decode cX11_saddles 173 = .ok (.iconst 0, 1) := by decide +kernel
theorem dX11_saddles_174 : decode cX11_saddles 174 = .ok (.iadd, 1) := by decide +kernel
theorem dX11_saddles_175 : decode cX11_saddles 175 = .ok (.istore 9, 2) := by decide +kernel
theorem dX11_saddles_177 : decode cX11_saddles 177 = .ok (.iinc 10 1, 3) := by decide +kernel
theorem dX11_saddles_180 : decode cX11_saddles 180 = .ok (.goto (-74), 3) := by decide +kernel
theorem dX11_saddles_183 : decode cX11_saddles 183 = .ok (.iload 8, 2) := by decide +kernel
theorem dX11_saddles_185 : decode cX11_saddles 185 = .ok (.ifCond .eq 19, 3) := by decide +kernel
theorem dX11_saddles_188 : decode cX11_saddles 188 = .ok (.iload 9, 2) := by decide +kernel
theorem dX11_saddles_190 : decode cX11_saddles 190 = .ok (.iload_n 3, 1) := by decide +kernel
theorem dX11_saddles_191 : decode cX11_saddles 191 = .ok (.if_icmp .ne 13, 3) := by decide +kernel
theorem dX11_saddles_194 : decode cX11_saddles 194 = .ok (.iinc 5 1, 3) := by decide +kernel
theorem dX11_saddles_197 : decode cX11_saddles 197 = .ok (.iload 6, 2) := by decide +kernel
theorem dX11_saddles_199 : decode cX11_saddles 199 = .ok (.iload 7, 2) := by decide +kernel
theorem dX11_saddles_201 : decode cX11_saddles 201 = .ok (.iand, 1) := by decide +kernel
theorem dX11_saddles_202 : decode cX11_saddles 202 = .ok (.istore 6, 2) := by decide +kernel
theorem dX11_saddles_204 : decode cX11_saddles 204 = .ok (.iinc 7 1, 3) := by decide +kernel
theorem dX11_saddles_207 : decode cX11_saddles 207 = .ok (.goto (-142), 3) := by decide +kernel
theorem dX11_saddles_210 : decode cX11_saddles 210 = .ok (.iload 4, 2) := by decide +kernel
theorem dX11_saddles_212 : decode cX11_saddles 212 = .ok (.ifCond .ne 8, 3) := by decide +kernel
theorem dX11_saddles_215 : decode cX11_saddles 215 = .ok (.iload 5, 2) := by decide +kernel
theorem dX11_saddles_217 : decode cX11_saddles 217 = .ok (.goto 15, 3) := by decide +kernel
theorem dX11_saddles_220 : decode cX11_saddles 220 = .ok (.iload 5, 2) := by decide +kernel
theorem dX11_saddles_222 : decode cX11_saddles 222 = .ok (.ifCond .ne 8, 3) := by decide +kernel
theorem dX11_saddles_225 : decode cX11_saddles 225 = .ok (.bipush (-9), 2) := by decide +kernel
theorem dX11_saddles_227 : decode cX11_saddles 227 = .ok (.goto 5, 3) := by decide +kernel
theorem dX11_saddles_230 : decode cX11_saddles 230 = .ok (.iload 6, 2) := by decide +kernel
theorem dX11_saddles_232 : decode cX11_saddles 232 = .ok (.ireturn, 1) := by decide +kernel
theorem dX11_divisor_0 : decode cX11_divisor 0 = .ok (.iload_n 0, 1) := by decide +kernel
theorem dX11_divisor_1 : decode cX11_divisor 1 = .ok (.istore_n 2, 1) := by decide +kernel
theorem dX11_divisor_2 : decode cX11_divisor 2 = .ok (.iload_n 1, 1) := by decide +kernel
theorem dX11_divisor_3 : decode cX11_divisor 3 = .ok (.istore_n 3, 1) := by decide +kernel
theorem dX11_divisor_4 : decode cX11_divisor 4 = .ok (.iload_n 3, 1) := by decide +kernel
theorem dX11_divisor_5 : decode cX11_divisor 5 = .ok (.ifCond .eq 16, 3) := by decide +kernel
theorem dX11_divisor_8 : decode cX11_divisor 8 = .ok (.iload_n 2, 1) := by decide +kernel
theorem dX11_divisor_9 : decode cX11_divisor 9 = .ok (.iload_n 3, 1) := by decide +kernel
theorem dX11_divisor_10 : decode cX11_divisor 10 = .ok (.irem, 1) := by decide +kernel
theorem dX11_divisor_11 : decode cX11_divisor 11 = .ok (.istore 4, 2) := by decide +kernel
theorem dX11_divisor_13 : decode cX11_divisor 13 = .ok (.iload_n 3, 1) := by decide +kernel
theorem dX11_divisor_14 : decode cX11_divisor 14 = .ok (.istore_n 2, 1) := by decide +kernel
theorem dX11_divisor_15 : decode cX11_divisor 15 = .ok (.iload 4, 2) := by decide +kernel
theorem dX11_divisor_17 : decode cX11_divisor 17 = .ok (.istore_n 3, 1) := by decide +kernel
theorem dX11_divisor_18 : decode cX11_divisor 18 = .ok (.goto (-14), 3) := by decide +kernel
theorem dX11_divisor_21 : decode cX11_divisor 21 = .ok (.iload_n 2, 1) := by decide +kernel
theorem dX11_divisor_22 : decode cX11_divisor 22 = .ok (.ireturn, 1) := by decide +kernel
theorem dX11_power_0 : decode cX11_power 0 = .ok (.iconst 1, 1) := by decide +kernel
theorem dX11_power_1 : decode cX11_power 1 = .ok (.istore_n 2, 1) := by decide +kernel
theorem dX11_power_2 : decode cX11_power 2 = .ok (.iconst 0, 1) := by decide +kernel
theorem dX11_power_3 : decode cX11_power 3 = .ok (.istore_n 3, 1) := by decide +kernel
theorem dX11_power_4 : decode cX11_power 4 = .ok (.iload_n 3, 1) := by decide +kernel
theorem dX11_power_5 : decode cX11_power 5 = .ok (.iload_n 1, 1) := by decide +kernel
theorem dX11_power_6 : decode cX11_power 6 = .ok (.if_icmp .ge 13, 3) := by decide +kernel
theorem dX11_power_9 : decode cX11_power 9 = .ok (.iload_n 2, 1) := by decide +kernel
theorem dX11_power_10 : decode cX11_power 10 = .ok (.iload_n 0, 1) := by decide +kernel
theorem dX11_power_11 : decode cX11_power 11 = .ok (.imul, 1) := by decide +kernel
theorem dX11_power_12 : decode cX11_power 12 = .ok (.istore_n 2, 1) := by decide +kernel
theorem dX11_power_13 : decode cX11_power 13 = .ok (.iinc 3 1, 3) := by decide +kernel
theorem dX11_power_16 : decode cX11_power 16 = .ok (.goto (-12), 3) := by decide +kernel
theorem dX11_power_19 : decode cX11_power 19 = .ok (.iload_n 2, 1) := by decide +kernel
theorem dX11_power_20 : decode cX11_power 20 = .ok (.ireturn, 1) := by decide +kernel
theorem dX11_chance_0 : decode cX11_chance 0 = .ok (.aload_n 0, 1) := by decide +kernel
theorem dX11_chance_1 : decode cX11_chance 1 = .ok (.iconst 0, 1) := by decide +kernel
theorem dX11_chance_2 : decode cX11_chance 2 = .ok (.putfield 56, 3) := by decide +kernel
theorem dX11_chance_5 : decode cX11_chance 5 = .ok (.aload_n 0, 1) := by decide +kernel
theorem dX11_chance_6 : decode cX11_chance 6 = .ok (.iload_n 1, 1) := by decide +kernel
theorem dX11_chance_7 : decode cX11_chance 7 = .ok (.invokevirtual 153, 3) := by decide +kernel
theorem dX11_chance_10 : decode cX11_chance 10 = .ok (.ifCond .ne 11, 3) := by decide +kernel
theorem dX11_chance_13 : decode cX11_chance 13 = .ok (.aload_n 0, 1) := by decide +kernel
theorem dX11_chance_14 : decode cX11_chance 14 = .ok (.iload_n 2, 1) := by decide +kernel
theorem dX11_chance_15 : decode cX11_chance 15 = .ok (.invokevirtual 149, 3) := by decide +kernel
theorem dX11_chance_18 : decode cX11_chance 18 = .ok (.ifCond .eq 5, 3) := by decide +kernel
theorem dX11_chance_21 : decode cX11_chance 21 = .ok (.iconst (-1), 1) := by decide +kernel
theorem dX11_chance_22 : decode cX11_chance 22 = .ok (.ireturn, 1) := by decide +kernel
theorem dX11_chance_23 : decode cX11_chance 23 = .ok (.iload_n 3, 1) := by decide +kernel
theorem dX11_chance_24 : decode cX11_chance 24 = .ok (.i2l, 1) := by decide +kernel
theorem dX11_chance_25 : decode cX11_chance 25 = .ok (.lconst 0, 1) := by decide +kernel
theorem dX11_chance_26 : decode cX11_chance 26 = .ok (.ldc2_w 225, 3) := by decide +kernel
theorem dX11_chance_29 : decode cX11_chance 29 = .ok (.invokestatic 63, 3) := by decide +kernel
theorem dX11_chance_32 : decode cX11_chance 32 = .ok (.ifCond .ne 6, 3) := by decide +kernel
theorem dX11_chance_35 : decode cX11_chance 35 = .ok (.bipush (-2), 2) := by decide +kernel
theorem dX11_chance_37 : decode cX11_chance 37 = .ok (.ireturn, 1) := by decide +kernel
theorem dX11_chance_38 : decode cX11_chance 38 = .ok (.iconst 0, 1) := by decide +kernel
theorem dX11_chance_39 : decode cX11_chance 39 = .ok (.istore 5, 2) := by decide +kernel
theorem dX11_chance_41 : decode cX11_chance 41 = .ok (.iconst 0, 1) := by decide +kernel
theorem dX11_chance_42 : decode cX11_chance 42 = .ok (.istore 6, 2) := by decide +kernel
theorem dX11_chance_44 : decode cX11_chance 44 = .ok (.iload 6, 2) := by decide +kernel
theorem dX11_chance_46 : decode cX11_chance 46 = .ok (.iconst 1, 1) := by decide +kernel
theorem dX11_chance_47 : decode cX11_chance 47 = .ok (.aload_n 0, 1) := by decide +kernel
theorem dX11_chance_48 : decode cX11_chance 48 = .ok (.getfield 67, 3) := by decide +kernel
theorem dX11_chance_51 : decode cX11_chance 51 = .ok (.ishl, 1) := by decide +kernel
theorem dX11_chance_52 : decode cX11_chance 52 = .ok (.if_icmp .ge 61, 3) := by decide +kernel
theorem dX11_chance_55 : decode cX11_chance 55 = .ok (.aload_n 0, 1) := by decide +kernel
theorem dX11_chance_56 : decode cX11_chance 56 = .ok (.iload 6, 2) := by decide +kernel
theorem dX11_chance_58 : decode cX11_chance 58 = .ok (.invokevirtual 188, 3) := by decide +kernel
theorem dX11_chance_61 : decode cX11_chance 61 = .ok (.iload 5, 2) := by decide +kernel
theorem dX11_chance_63 : decode cX11_chance 63 = .ok (.aload_n 0, 1) := by decide +kernel
theorem dX11_chance_64 : decode cX11_chance 64 = .ok (.getfield 44, 3) := by decide +kernel
theorem dX11_chance_67 : decode cX11_chance 67 = .ok (.iload_n 1, 1) := by decide +kernel
theorem dX11_chance_68 : decode cX11_chance 68 = .ok (.iaload, 1) := by decide +kernel
theorem dX11_chance_69 : decode cX11_chance 69 = .ok (.iload_n 2, 1) := by decide +kernel
theorem dX11_chance_70 : decode cX11_chance 70 = .ok (.if_icmp .ne 33, 3) := by decide +kernel
theorem dX11_chance_73 : decode cX11_chance 73 = .ok (.iload_n 3, 1) := by decide +kernel
theorem dX11_chance_74 : decode cX11_chance 74 = .ok (.iload 6, 2) := by decide +kernel
theorem dX11_chance_76 : decode cX11_chance 76 = .ok (.invokestatic 113, 3) := by decide +kernel
theorem dX11_chance_79 : decode cX11_chance 79 = .ok (.invokestatic 227, 3) := by decide +kernel
theorem dX11_chance_82 : decode cX11_chance 82 = .ok (.bipush 10, 2) := by decide +kernel
theorem dX11_chance_84 : decode cX11_chance 84 = .ok (.iload_n 3, 1) := by decide +kernel
theorem dX11_chance_85 : decode cX11_chance 85 = .ok (.isub, 1) := by decide +kernel
theorem dX11_chance_86 : decode cX11_chance 86 = .ok (.aload_n 0, 1) := by decide +kernel
theorem dX11_chance_87 : decode cX11_chance 87 = .ok (.getfield 67, 3) := by decide +kernel
theorem dX11_chance_90 : decode cX11_chance 90 = .ok (.iload 6, 2) := by decide +kernel
theorem dX11_chance_92 : decode cX11_chance 92 = .ok (.invokestatic 113, 3) := by decide +kernel
theorem dX11_chance_95 : decode cX11_chance 95 = .ok (.isub, 1) := by decide +kernel
theorem dX11_chance_96 : decode cX11_chance 96 = .ok (.invokestatic 227, 3) := by decide +kernel
theorem dX11_chance_99 : decode cX11_chance 99 = .ok (.imul, 1) := by decide +kernel
theorem dX11_chance_100 : decode cX11_chance 100 = .ok (.goto 4, 3) := by decide +kernel
theorem dX11_chance_103 : decode cX11_chance 103 = .ok (.iconst 0, 1) := by decide +kernel
theorem dX11_chance_104 : decode cX11_chance 104 = .ok (.iadd, 1) := by decide +kernel
theorem dX11_chance_105 : decode cX11_chance 105 = .ok (.istore 5, 2) := by decide +kernel
theorem dX11_chance_107 : decode cX11_chance 107 = .ok (.iinc 6 1, 3) := by decide +kernel
theorem dX11_chance_110 : decode cX11_chance 110 = .ok (.goto (-66), 3) := by decide +kernel
theorem dX11_chance_113 : decode cX11_chance 113 = .ok (.bipush 10, 2) := by decide +kernel
theorem dX11_chance_115 : decode cX11_chance 115 = .ok (.aload_n 0, 1) := by decide +kernel
theorem dX11_chance_116 : decode cX11_chance 116 = .ok (.getfield 67, 3) := by decide +kernel
theorem dX11_chance_119 : decode cX11_chance 119 = .ok (.invokestatic 227, 3) := by decide +kernel
theorem dX11_chance_122 : decode cX11_chance 122 = .ok (.istore 6, 2) := by decide +kernel
theorem dX11_chance_124 : decode cX11_chance 124 = .ok (.iload 5, 2) := by decide +kernel
theorem dX11_chance_126 : decode cX11_chance 126 = .ok (.iload 6, 2) := by decide +kernel
theorem dX11_chance_128 : decode cX11_chance 128 = .ok (.invokestatic 230, 3) := by decide +kernel
theorem dX11_chance_131 : decode cX11_chance 131 = .ok (.istore 7, 2) := by decide +kernel
theorem dX11_chance_133 : decode cX11_chance 133 = .ok (.iload 4, 2) := by decide +kernel
theorem dX11_chance_135 : decode cX11_chance 135 = .ok (.ifCond .eq 11, 3) := by decide +kernel
theorem dX11_chance_138 : decode cX11_chance 138 = .ok (.iload 5, 2) := by decide +kernel
theorem dX11_chance_140 : decode cX11_chance 140 = .ok (.iload 7, 2) := by decide +kernel
theorem dX11_chance_142 : decode cX11_chance 142 = .ok (.idiv, 1) := by decide +kernel
theorem dX11_chance_143 : decode cX11_chance 143 = .ok (.goto 8, 3) := by decide +kernel
theorem dX11_chance_146 : decode cX11_chance 146 = .ok (.iload 6, 2) := by decide +kernel
theorem dX11_chance_148 : decode cX11_chance 148 = .ok (.iload 7, 2) := by decide +kernel
theorem dX11_chance_150 : decode cX11_chance 150 = .ok (.idiv, 1) := by decide +kernel
theorem dX11_chance_151 : decode cX11_chance 151 = .ok (.ireturn, 1) := by decide +kernel
theorem dX11_seed_0 : decode cX11_seed 0 = .ok (.aload_n 0, 1) := by decide +kernel
theorem dX11_seed_1 : decode cX11_seed 1 = .ok (.iconst 0, 1) := by decide +kernel
theorem dX11_seed_2 : decode cX11_seed 2 = .ok (.putfield 56, 3) := by decide +kernel
theorem dX11_seed_5 : decode cX11_seed 5 = .ok (.aload_n 0, 1) := by decide +kernel
theorem dX11_seed_6 : decode cX11_seed 6 = .ok (.getfield 233, 3) := by decide +kernel
theorem dX11_seed_9 : decode cX11_seed 9 = .ok (.lstore_n 3, 1) := by decide +kernel
theorem dX11_seed_10 : decode cX11_seed 10 = .ok (.aload_n 0, 1) := by decide +kernel
theorem dX11_seed_11 : decode cX11_seed 11 = .ok (.lload_n 1, 1) := by decide +kernel
theorem dX11_seed_12 : decode cX11_seed 12 = .ok (.putfield 233, 3) := by decide +kernel
theorem dX11_seed_15 : decode cX11_seed 15 = .ok (.lload_n 3, 1) := by decide +kernel
theorem dX11_seed_16 : decode cX11_seed 16 = .ok (.lreturn, 1) := by decide +kernel
theorem dX11_days_0 : decode cX11_days 0 = .ok (.aload_n 0, 1) := by decide +kernel
theorem dX11_days_1 : decode cX11_days 1 = .ok (.iconst 0, 1) := by decide +kernel
theorem dX11_days_2 : decode cX11_days 2 = .ok (.putfield 56, 3) := by decide +kernel
theorem dX11_days_5 : decode cX11_days 5 = .ok (.iload_n 1, 1) := by decide +kernel
theorem dX11_days_6 : decode cX11_days 6 = .ok (.i2l, 1) := by decide +kernel
theorem dX11_days_7 : decode cX11_days 7 = .ok (.lconst 1, 1) := by decide +kernel
theorem dX11_days_8 : decode cX11_days 8 = .ok (.ldc2_w 237, 3) := by decide +kernel
theorem dX11_days_11 : decode cX11_days 11 = .ok (.invokestatic 63, 3) := by decide +kernel
theorem dX11_days_14 : decode cX11_days 14 = .ok (.ifCond .ne 6, 3) := by decide +kernel
theorem dX11_days_17 : decode cX11_days 17 = .ok (.bipush (-2), 2) := by decide +kernel
theorem dX11_days_19 : decode cX11_days 19 = .ok (.ireturn, 1) := by decide +kernel
theorem dX11_days_20 : decode cX11_days 20 = .ok (.aload_n 0, 1) := by decide +kernel
theorem dX11_days_21 : decode cX11_days 21 = .ok (.getfield 60, 3) := by decide +kernel
theorem dX11_days_24 : decode cX11_days 24 = .ok (.ifCond .eq 10, 3) := by decide +kernel
theorem dX11_days_27 : decode cX11_days 27 = .ok (.aload_n 0, 1) := by decide +kernel
theorem dX11_days_28 : decode cX11_days 28 = .ok (.getfield 67, 3) := by decide +kernel
theorem dX11_days_31 : decode cX11_days 31 = .ok (.ifCond .ne 5, 3) := by decide +kernel
theorem dX11_days_34 : decode cX11_days 34 = .ok (.iconst 0, 1) := by decide +kernel
theorem dX11_days_35 : decode cX11_days 35 = .ok (.ireturn, 1) := by decide +kernel
theorem dX11_days_36 : decode cX11_days 36 = .ok (.aload_n 0, 1) := by decide +kernel
theorem dX11_days_37 : decode cX11_days 37 = .ok (.invokevirtual 173, 3) := by decide +kernel
theorem dX11_days_40 : decode cX11_days 40 = .ok (.iconst 0, 1) := by decide +kernel
theorem dX11_days_41 : decode cX11_days 41 = .ok (.istore_n 2, 1) := by decide +kernel
theorem dX11_days_42 : decode cX11_days 42 = .ok (.iload_n 2, 1) := by decide +kernel
theorem dX11_days_43 : decode cX11_days 43 = .ok (.aload_n 0, 1) := by decide +kernel
theorem dX11_days_44 : decode cX11_days 44 = .ok (.getfield 67, 3) := by decide +kernel
theorem dX11_days_47 : decode cX11_days 47 = .ok (.if_icmp .ge 21, 3) := by decide +kernel
theorem dX11_days_50 : decode cX11_days 50 = .ok (.aload_n 0, 1) := by decide +kernel
theorem dX11_days_51 : decode cX11_days 51 = .ok (.getfield 44, 3) := by decide +kernel
theorem dX11_days_54 : decode cX11_days 54 = .ok (.iload_n 2, 1) := by decide +kernel
theorem dX11_days_55 : decode cX11_days 55 = .ok (.aload_n 0, 1) := by decide +kernel
theorem dX11_days_56 : decode cX11_days 56 = .ok (.getfield 25, 3) := by decide +kernel
theorem dX11_days_59 : decode cX11_days 59 = .ok (.iload_n 2, 1) := by decide +kernel
theorem dX11_days_60 : decode cX11_days 60 = .ok (.iaload, 1) := by decide +kernel
theorem dX11_days_61 : decode cX11_days 61 = .ok (.iastore, 1) := by decide +kernel
theorem dX11_days_62 : decode cX11_days 62 = .ok (.iinc 2 1, 3) := by decide +kernel
theorem dX11_days_65 : decode cX11_days 65 = .ok (.goto (-23), 3) := by decide +kernel
theorem dX11_days_68 : decode cX11_days 68 = .ok (.iconst 0, 1) := by decide +kernel
theorem dX11_days_69 : decode cX11_days 69 = .ok (.istore_n 2, 1) := by decide +kernel
theorem dX11_days_70 : decode cX11_days 70 = .ok (.iload_n 2, 1) := by decide +kernel
theorem dX11_days_71 : decode cX11_days 71 = .ok (.iload_n 1, 1) := by decide +kernel
theorem dX11_days_72 : decode cX11_days 72 = .ok (.if_icmp .ge 82, 3) := by decide +kernel
theorem dX11_days_75 : decode cX11_days 75 = .ok (.aload_n 0, 1) := by decide +kernel
theorem dX11_days_76 : decode cX11_days 76 = .ok (.aload_n 0, 1) := by decide +kernel
theorem dX11_days_77 : decode cX11_days 77 = .ok (.getfield 233, 3) := by decide +kernel
theorem dX11_days_80 : decode cX11_days 80 = .ok (.ldc2_w 239, 3) := by decide +kernel
theorem dX11_days_83 : decode cX11_days 83 = .ok (.lmul, 1) := by decide +kernel
theorem dX11_days_84 : decode cX11_days 84 = .ok (.ldc2_w 241, 3) := by decide +kernel
theorem dX11_days_87 : decode cX11_days 87 = .ok (.ladd, 1) := by decide +kernel
theorem dX11_days_88 : decode cX11_days 88 = .ok (.putfield 233, 3) := by decide +kernel
theorem dX11_days_91 : decode cX11_days 91 = .ok (.aload_n 0, 1) := by decide +kernel
theorem dX11_days_92 : decode cX11_days 92 = .ok (.getfield 233, 3) := by decide +kernel
theorem dX11_days_95 : decode cX11_days 95 = .ok (.bipush 33, 2) := by decide +kernel
theorem dX11_days_97 : decode cX11_days 97 = .ok (.lushr, 1) := by decide +kernel
theorem dX11_days_98 : decode cX11_days 98 = .ok (.aload_n 0, 1) := by decide +kernel
theorem dX11_days_99 : decode cX11_days 99 = .ok (.getfield 67, 3) := by decide +kernel
theorem dX11_days_102 : decode cX11_days 102 = .ok (.aload_n 0, 1) := by decide +kernel
theorem dX11_days_103 : decode cX11_days 103 = .ok (.getfield 60, 3) := by decide +kernel
theorem dX11_days_106 : decode cX11_days 106 = .ok (.imul, 1) := by decide +kernel
theorem dX11_days_107 : decode cX11_days 107 = .ok (.i2l, 1) := by decide +kernel
theorem dX11_days_108 : decode cX11_days 108 = .ok (.lrem, 1) := by decide +kernel
theorem dX11_days_109 : decode cX11_days 109 = .ok (.l2i, 1) := by decide +kernel
theorem dX11_days_110 : decode cX11_days 110 = .ok (.istore_n 3, 1) := by decide +kernel
theorem dX11_days_111 : decode cX11_days 111 = .ok (.aload_n 0, 1) := by decide +kernel
theorem dX11_days_112 : decode cX11_days 112 = .ok (.getfield 44, 3) := by decide +kernel
theorem dX11_days_115 : decode cX11_days 115 = .ok (.iload_n 3, 1) := by decide +kernel
theorem dX11_days_116 : decode cX11_days 116 = .ok (.aload_n 0, 1) := by decide +kernel
theorem dX11_days_117 : decode cX11_days 117 = .ok (.getfield 60, 3) := by decide +kernel
theorem dX11_days_120 : decode cX11_days 120 = .ok (.idiv, 1) := by decide +kernel
theorem dX11_days_121 : decode cX11_days 121 = .ok (.iaload, 1) := by decide +kernel
theorem dX11_days_122 : decode cX11_days 122 = .ok (.bipush (-9), 2) := by decide +kernel
theorem dX11_days_124 : decode cX11_days 124 = .ok (.if_icmp .ne 24, 3) := by decide +kernel
theorem dX11_days_127 : decode cX11_days 127 = .ok (.aload_n 0, 1) := by decide +kernel
theorem dX11_days_128 : decode cX11_days 128 = .ok (.aload_n 0, 1) := by decide +kernel
theorem dX11_days_129 : decode cX11_days 129 = .ok (.getfield 44, 3) := by decide +kernel
theorem dX11_days_132 : decode cX11_days 132 = .ok (.iload_n 3, 1) := by decide +kernel
theorem dX11_days_133 : decode cX11_days 133 = .ok (.aload_n 0, 1) := by decide +kernel
theorem dX11_days_134 : decode cX11_days 134 = .ok (.getfield 60, 3) := by decide +kernel
theorem dX11_days_137 : decode cX11_days 137 = .ok (.idiv, 1) := by decide +kernel
theorem dX11_days_138 : decode cX11_days 138 = .ok (.iload_n 3, 1) := by decide +kernel
theorem dX11_days_139 : decode cX11_days 139 = .ok (.aload_n 0, 1) := by decide +kernel
theorem dX11_days_140 : decode cX11_days 140 = .ok (.getfield 60, 3) := by decide +kernel
theorem dX11_days_143 : decode cX11_days 143 = .ok (.irem, 1) := by decide +kernel
theorem dX11_days_144 : decode cX11_days 144 = .ok (.invokevirtual 162, 3) := by decide +kernel
theorem dX11_days_147 : decode cX11_days 147 = .ok (.pop, 1) := by decide +kernel
theorem dX11_days_148 : decode cX11_days 148 = .ok (.iinc 2 1, 3) := by decide +kernel
theorem dX11_days_151 : decode cX11_days 151 = .ok (.goto (-81), 3) := by decide +kernel
theorem dX11_days_154 : decode cX11_days 154 = .ok (.aload_n 0, 1) := by decide +kernel
theorem dX11_days_155 : decode cX11_days 155 = .ok (.aload_n 0, 1) := by decide +kernel
theorem dX11_days_156 : decode cX11_days 156 = .ok (.getfield 44, 3) := by decide +kernel
theorem dX11_days_159 : decode cX11_days 159 = .ok (.invokevirtual 139, 3) := by decide +kernel
theorem dX11_days_162 : decode cX11_days 162 = .ok (.ireturn, 1) := by decide +kernel
theorem dX11_keep_0 : decode cX11_keep 0 = .ok (.aload_n 0, 1) := by decide +kernel
theorem dX11_keep_1 : decode cX11_keep 1 = .ok (.iconst 0, 1) := by decide +kernel
theorem dX11_keep_2 : decode cX11_keep 2 = .ok (.putfield 56, 3) := by decide +kernel
theorem dX11_keep_5 : decode cX11_keep 5 = .ok (.iload_n 1, 1) := by decide +kernel
theorem dX11_keep_6 : decode cX11_keep 6 = .ok (.i2l, 1) := by decide +kernel
theorem dX11_keep_7 : decode cX11_keep 7 = .ok (.lconst 0, 1) := by decide +kernel
theorem dX11_keep_8 : decode cX11_keep 8 = .ok (.lconst 1, 1) := by decide +kernel
theorem dX11_keep_9 : decode cX11_keep 9 = .ok (.invokestatic 63, 3) := by decide +kernel
theorem dX11_keep_12 : decode cX11_keep 12 = .ok (.ifCond .ne 5, 3) := by decide +kernel
theorem dX11_keep_15 : decode cX11_keep 15 = .ok (.iconst (-1), 1) := by decide +kernel
theorem dX11_keep_16 : decode cX11_keep 16 = .ok (.ireturn, 1) := by decide +kernel
theorem dX11_keep_17 : decode cX11_keep 17 = .ok (.aload_n 0, 1) := by decide +kernel
theorem dX11_keep_18 : decode cX11_keep 18 = .ok (.getfield 34, 3) := by decide +kernel
theorem dX11_keep_21 : decode cX11_keep 21 = .ok (.iload_n 1, 1) := by decide +kernel
theorem dX11_keep_22 : decode cX11_keep 22 = .ok (.iconst 1, 1) := by decide +kernel
theorem dX11_keep_23 : decode cX11_keep 23 = .ok (.bastore, 1) := by decide +kernel
theorem dX11_keep_24 : decode cX11_keep 24 = .ok (.iconst 0, 1) := by decide +kernel
theorem dX11_keep_25 : decode cX11_keep 25 = .ok (.istore_n 2, 1) := by decide +kernel
theorem dX11_keep_26 : decode cX11_keep 26 = .ok (.iload_n 2, 1) := by decide +kernel
theorem dX11_keep_27 : decode cX11_keep 27 = .ok (.bipush 21, 2) := by decide +kernel
theorem dX11_keep_29 : decode cX11_keep 29 = .ok (.if_icmp .ge 26, 3) := by decide +kernel
theorem dX11_keep_32 : decode cX11_keep 32 = .ok (.aload_n 0, 1) := by decide +kernel
theorem dX11_keep_33 : decode cX11_keep 33 = .ok (.getfield 31, 3) := by decide +kernel
theorem dX11_keep_36 : decode cX11_keep 36 = .ok (.bipush 21, 2) := by decide +kernel
theorem dX11_keep_38 : decode cX11_keep 38 = .ok (.iload_n 1, 1) := by decide +kernel
theorem dX11_keep_39 : decode cX11_keep 39 = .ok (.imul, 1) := by decide +kernel
theorem dX11_keep_40 : decode cX11_keep 40 = .ok (.iload_n 2, 1) := by decide +kernel
theorem dX11_keep_41 : decode cX11_keep 41 = .ok (.iadd, 1) := by decide +kernel
theorem dX11_keep_42 : decode cX11_keep 42 = .ok (.aload_n 0, 1) := by decide +kernel
theorem dX11_keep_43 : decode cX11_keep 43 = .ok (.getfield 25, 3) := by decide +kernel
theorem dX11_keep_46 : decode cX11_keep 46 = .ok (.iload_n 2, 1) := by decide +kernel
theorem dX11_keep_47 : decode cX11_keep 47 = .ok (.iaload, 1) := by decide +kernel
theorem dX11_keep_48 : decode cX11_keep 48 = .ok (.iastore, 1) := by decide +kernel
theorem dX11_keep_49 : decode cX11_keep 49 = .ok (.iinc 2 1, 3) := by decide +kernel
theorem dX11_keep_52 : decode cX11_keep 52 = .ok (.goto (-26), 3) := by decide +kernel
theorem dX11_keep_55 : decode cX11_keep 55 = .ok (.aload_n 0, 1) := by decide +kernel
theorem dX11_keep_56 : decode cX11_keep 56 = .ok (.aload_n 0, 1) := by decide +kernel
theorem dX11_keep_57 : decode cX11_keep 57 = .ok (.getfield 25, 3) := by decide +kernel
theorem dX11_keep_60 : decode cX11_keep 60 = .ok (.invokevirtual 139, 3) := by decide +kernel
theorem dX11_keep_63 : decode cX11_keep 63 = .ok (.invokestatic 113, 3) := by decide +kernel
theorem dX11_keep_66 : decode cX11_keep 66 = .ok (.ireturn, 1) := by decide +kernel
theorem dX11_again_0 : decode cX11_again 0 = .ok (.aload_n 0, 1) := by decide +kernel
theorem dX11_again_1 : decode cX11_again 1 = .ok (.iconst 0, 1) := by decide +kernel
theorem dX11_again_2 : decode cX11_again 2 = .ok (.putfield 56, 3) := by decide +kernel
theorem dX11_again_5 : decode cX11_again 5 = .ok (.iload_n 1, 1) := by decide +kernel
theorem dX11_again_6 : decode cX11_again 6 = .ok (.i2l, 1) := by decide +kernel
theorem dX11_again_7 : decode cX11_again 7 = .ok (.lconst 0, 1) := by decide +kernel
theorem dX11_again_8 : decode cX11_again 8 = .ok (.lconst 1, 1) := by decide +kernel
theorem dX11_again_9 : decode cX11_again 9 = .ok (.invokestatic 63, 3) := by decide +kernel
theorem dX11_again_12 : decode cX11_again 12 = .ok (.ifCond .ne 5, 3) := by decide +kernel
theorem dX11_again_15 : decode cX11_again 15 = .ok (.iconst (-1), 1) := by decide +kernel
theorem dX11_again_16 : decode cX11_again 16 = .ok (.ireturn, 1) := by decide +kernel
theorem dX11_again_17 : decode cX11_again 17 = .ok (.aload_n 0, 1) := by decide +kernel
theorem dX11_again_18 : decode cX11_again 18 = .ok (.getfield 34, 3) := by decide +kernel
theorem dX11_again_21 : decode cX11_again 21 = .ok (.iload_n 1, 1) := by decide +kernel
theorem dX11_again_22 : decode cX11_again 22 = .ok (.baload, 1) := by decide +kernel
theorem dX11_again_23 : decode cX11_again 23 = .ok (.ifCond .ne 6, 3) := by decide +kernel
theorem dX11_again_26 : decode cX11_again 26 = .ok (.bipush (-3), 2) := by decide +kernel
theorem dX11_again_28 : decode cX11_again 28 = .ok (.ireturn, 1) := by decide +kernel
theorem dX11_again_29 : decode cX11_again 29 = .ok (.iconst 0, 1) := by decide +kernel
theorem dX11_again_30 : decode cX11_again 30 = .ok (.istore_n 2, 1) := by decide +kernel
theorem dX11_again_31 : decode cX11_again 31 = .ok (.iload_n 2, 1) := by decide +kernel
theorem dX11_again_32 : decode cX11_again 32 = .ok (.bipush 21, 2) := by decide +kernel
theorem dX11_again_34 : decode cX11_again 34 = .ok (.if_icmp .ge 26, 3) := by decide +kernel
theorem dX11_again_37 : decode cX11_again 37 = .ok (.aload_n 0, 1) := by decide +kernel
theorem dX11_again_38 : decode cX11_again 38 = .ok (.getfield 25, 3) := by decide +kernel
theorem dX11_again_41 : decode cX11_again 41 = .ok (.iload_n 2, 1) := by decide +kernel
theorem dX11_again_42 : decode cX11_again 42 = .ok (.aload_n 0, 1) := by decide +kernel
theorem dX11_again_43 : decode cX11_again 43 = .ok (.getfield 31, 3) := by decide +kernel
theorem dX11_again_46 : decode cX11_again 46 = .ok (.bipush 21, 2) := by decide +kernel
theorem dX11_again_48 : decode cX11_again 48 = .ok (.iload_n 1, 1) := by decide +kernel
theorem dX11_again_49 : decode cX11_again 49 = .ok (.imul, 1) := by decide +kernel
theorem dX11_again_50 : decode cX11_again 50 = .ok (.iload_n 2, 1) := by decide +kernel
theorem dX11_again_51 : decode cX11_again 51 = .ok (.iadd, 1) := by decide +kernel
theorem dX11_again_52 : decode cX11_again 52 = .ok (.iaload, 1) := by decide +kernel
theorem dX11_again_53 : decode cX11_again 53 = .ok (.iastore, 1) := by decide +kernel
theorem dX11_again_54 : decode cX11_again 54 = .ok (.iinc 2 1, 3) := by decide +kernel
theorem dX11_again_57 : decode cX11_again 57 = .ok (.goto (-26), 3) := by decide +kernel
theorem dX11_again_60 : decode cX11_again 60 = .ok (.aload_n 0, 1) := by decide +kernel
theorem dX11_again_61 : decode cX11_again 61 = .ok (.iconst 0, 1) := by decide +kernel
theorem dX11_again_62 : decode cX11_again 62 = .ok (.putfield 100, 3) := by decide +kernel
theorem dX11_again_65 : decode cX11_again 65 = .ok (.aload_n 0, 1) := by decide +kernel
theorem dX11_again_66 : decode cX11_again 66 = .ok (.aload_n 0, 1) := by decide +kernel
theorem dX11_again_67 : decode cX11_again 67 = .ok (.getfield 25, 3) := by decide +kernel
theorem dX11_again_70 : decode cX11_again 70 = .ok (.invokevirtual 139, 3) := by decide +kernel
theorem dX11_again_73 : decode cX11_again 73 = .ok (.invokestatic 113, 3) := by decide +kernel
theorem dX11_again_76 : decode cX11_again 76 = .ok (.ireturn, 1) := by decide +kernel
theorem dJ6_bitCount_0f7a4_0 : decode cJ6_bitCount_0f7a4 0 = .ok (.iload_n 0, 1) := by decide +kernel
theorem dJ6_bitCount_0f7a4_1 : decode cJ6_bitCount_0f7a4 1 = .ok (.iload_n 0, 1) := by decide +kernel
theorem dJ6_bitCount_0f7a4_2 : decode cJ6_bitCount_0f7a4 2 = .ok (.iconst 1, 1) := by decide +kernel
theorem dJ6_bitCount_0f7a4_3 : decode cJ6_bitCount_0f7a4 3 = .ok (.iushr, 1) := by decide +kernel
theorem dJ6_bitCount_0f7a4_4 : decode cJ6_bitCount_0f7a4 4 = .ok (.ldc_w 265, 3) := by decide +kernel
theorem dJ6_bitCount_0f7a4_7 : decode cJ6_bitCount_0f7a4 7 = .ok (.iand, 1) := by decide +kernel
theorem dJ6_bitCount_0f7a4_8 : decode cJ6_bitCount_0f7a4 8 = .ok (.isub, 1) := by decide +kernel
theorem dJ6_bitCount_0f7a4_9 : decode cJ6_bitCount_0f7a4 9 = .ok (.istore_n 0, 1) := by decide +kernel
theorem dJ6_bitCount_0f7a4_10 : decode cJ6_bitCount_0f7a4 10 = .ok (.iload_n 0, 1) := by decide +kernel
theorem dJ6_bitCount_0f7a4_11 : decode cJ6_bitCount_0f7a4 11 = .ok (.ldc_w 266, 3) := by decide +kernel
theorem dJ6_bitCount_0f7a4_14 : decode cJ6_bitCount_0f7a4 14 = .ok (.iand, 1) := by decide +kernel
theorem dJ6_bitCount_0f7a4_15 : decode cJ6_bitCount_0f7a4 15 = .ok (.iload_n 0, 1) := by decide +kernel
theorem dJ6_bitCount_0f7a4_16 : decode cJ6_bitCount_0f7a4 16 = .ok (.iconst 2, 1) := by decide +kernel
theorem dJ6_bitCount_0f7a4_17 : decode cJ6_bitCount_0f7a4 17 = .ok (.iushr, 1) := by decide +kernel
theorem dJ6_bitCount_0f7a4_18 : decode cJ6_bitCount_0f7a4 18 = .ok (.ldc_w 266, 3) := by decide +kernel
theorem dJ6_bitCount_0f7a4_21 : decode cJ6_bitCount_0f7a4 21 = .ok (.iand, 1) := by decide +kernel
theorem dJ6_bitCount_0f7a4_22 : decode cJ6_bitCount_0f7a4 22 = .ok (.iadd, 1) := by decide +kernel
theorem dJ6_bitCount_0f7a4_23 : decode cJ6_bitCount_0f7a4 23 = .ok (.istore_n 0, 1) := by decide +kernel
theorem dJ6_bitCount_0f7a4_24 : decode cJ6_bitCount_0f7a4 24 = .ok (.iload_n 0, 1) := by decide +kernel
theorem dJ6_bitCount_0f7a4_25 : decode cJ6_bitCount_0f7a4 25 = .ok (.iload_n 0, 1) := by decide +kernel
theorem dJ6_bitCount_0f7a4_26 : decode cJ6_bitCount_0f7a4 26 = .ok (.iconst 4, 1) := by decide +kernel
theorem dJ6_bitCount_0f7a4_27 : decode cJ6_bitCount_0f7a4 27 = .ok (.iushr, 1) := by decide +kernel
theorem dJ6_bitCount_0f7a4_28 : decode cJ6_bitCount_0f7a4 28 = .ok (.iadd, 1) := by decide +kernel
theorem dJ6_bitCount_0f7a4_29 : decode cJ6_bitCount_0f7a4 29 = .ok (.ldc_w 267, 3) := by decide +kernel
theorem dJ6_bitCount_0f7a4_32 : decode cJ6_bitCount_0f7a4 32 = .ok (.iand, 1) := by decide +kernel
theorem dJ6_bitCount_0f7a4_33 : decode cJ6_bitCount_0f7a4 33 = .ok (.istore_n 0, 1) := by decide +kernel
theorem dJ6_bitCount_0f7a4_34 : decode cJ6_bitCount_0f7a4 34 = .ok (.iload_n 0, 1) := by decide +kernel
theorem dJ6_bitCount_0f7a4_35 : decode cJ6_bitCount_0f7a4 35 = .ok (.iload_n 0, 1) := by decide +kernel
theorem dJ6_bitCount_0f7a4_36 : decode cJ6_bitCount_0f7a4 36 = .ok (.bipush 8, 2) := by decide +kernel
theorem dJ6_bitCount_0f7a4_38 : decode cJ6_bitCount_0f7a4 38 = .ok (.iushr, 1) := by decide +kernel
theorem dJ6_bitCount_0f7a4_39 : decode cJ6_bitCount_0f7a4 39 = .ok (.iadd, 1) := by decide +kernel
theorem dJ6_bitCount_0f7a4_40 : decode cJ6_bitCount_0f7a4 40 = .ok (.istore_n 0, 1) := by decide +kernel
theorem dJ6_bitCount_0f7a4_41 : decode cJ6_bitCount_0f7a4 41 = .ok (.iload_n 0, 1) := by decide +kernel
theorem dJ6_bitCount_0f7a4_42 : decode cJ6_bitCount_0f7a4 42 = .ok (.iload_n 0, 1) := by decide +kernel
theorem dJ6_bitCount_0f7a4_43 : decode cJ6_bitCount_0f7a4 43 = .ok (.bipush 16, 2) := by decide +kernel
theorem dJ6_bitCount_0f7a4_45 : decode cJ6_bitCount_0f7a4 45 = .ok (.iushr, 1) := by decide +kernel
theorem dJ6_bitCount_0f7a4_46 : decode cJ6_bitCount_0f7a4 46 = .ok (.iadd, 1) := by decide +kernel
theorem dJ6_bitCount_0f7a4_47 : decode cJ6_bitCount_0f7a4 47 = .ok (.istore_n 0, 1) := by decide +kernel
theorem dJ6_bitCount_0f7a4_48 : decode cJ6_bitCount_0f7a4 48 = .ok (.iload_n 0, 1) := by decide +kernel
theorem dJ6_bitCount_0f7a4_49 : decode cJ6_bitCount_0f7a4 49 = .ok (.bipush 63, 2) := by decide +kernel
theorem dJ6_bitCount_0f7a4_51 : decode cJ6_bitCount_0f7a4 51 = .ok (.iand, 1) := by decide +kernel
theorem dJ6_bitCount_0f7a4_52 : decode cJ6_bitCount_0f7a4 52 = .ok (.ireturn, 1) := by decide +kernel
theorem dJ13_bitCount_95d88_0 : decode cJ13_bitCount_95d88 0 = .ok (.lload_n 0, 1) := by decide +kernel
theorem dJ13_bitCount_95d88_1 : decode cJ13_bitCount_95d88 1 = .ok (.lload_n 0, 1) := by decide +kernel
theorem dJ13_bitCount_95d88_2 : decode cJ13_bitCount_95d88 2 = .ok (.iconst 1, 1) := by decide +kernel
theorem dJ13_bitCount_95d88_3 : decode cJ13_bitCount_95d88 3 = .ok (.lushr, 1) := by decide +kernel
theorem dJ13_bitCount_95d88_4 : decode cJ13_bitCount_95d88 4 = .ok (.ldc2_w 314, 3) := by decide +kernel
theorem dJ13_bitCount_95d88_7 : decode cJ13_bitCount_95d88 7 = .ok (.land, 1) := by decide +kernel
theorem dJ13_bitCount_95d88_8 : decode cJ13_bitCount_95d88 8 = .ok (.lsub, 1) := by decide +kernel
theorem dJ13_bitCount_95d88_9 : decode cJ13_bitCount_95d88 9 = .ok (.lstore_n 0, 1) := by decide +kernel
theorem dJ13_bitCount_95d88_10 : decode cJ13_bitCount_95d88 10 = .ok (.lload_n 0, 1) := by decide +kernel
theorem dJ13_bitCount_95d88_11 : decode cJ13_bitCount_95d88 11 = .ok (.ldc2_w 316, 3) := by decide +kernel
theorem dJ13_bitCount_95d88_14 : decode cJ13_bitCount_95d88 14 = .ok (.land, 1) := by decide +kernel
theorem dJ13_bitCount_95d88_15 : decode cJ13_bitCount_95d88 15 = .ok (.lload_n 0, 1) := by decide +kernel
theorem dJ13_bitCount_95d88_16 : decode cJ13_bitCount_95d88 16 = .ok (.iconst 2, 1) := by decide +kernel
theorem dJ13_bitCount_95d88_17 : decode cJ13_bitCount_95d88 17 = .ok (.lushr, 1) := by decide +kernel
theorem dJ13_bitCount_95d88_18 : decode cJ13_bitCount_95d88 18 = .ok (.ldc2_w 316, 3) := by decide +kernel
theorem dJ13_bitCount_95d88_21 : decode cJ13_bitCount_95d88 21 = .ok (.land, 1) := by decide +kernel
theorem dJ13_bitCount_95d88_22 : decode cJ13_bitCount_95d88 22 = .ok (.ladd, 1) := by decide +kernel
theorem dJ13_bitCount_95d88_23 : decode cJ13_bitCount_95d88 23 = .ok (.lstore_n 0, 1) := by decide +kernel
theorem dJ13_bitCount_95d88_24 : decode cJ13_bitCount_95d88 24 = .ok (.lload_n 0, 1) := by decide +kernel
theorem dJ13_bitCount_95d88_25 : decode cJ13_bitCount_95d88 25 = .ok (.lload_n 0, 1) := by decide +kernel
theorem dJ13_bitCount_95d88_26 : decode cJ13_bitCount_95d88 26 = .ok (.iconst 4, 1) := by decide +kernel
theorem dJ13_bitCount_95d88_27 : decode cJ13_bitCount_95d88 27 = .ok (.lushr, 1) := by decide +kernel
theorem dJ13_bitCount_95d88_28 : decode cJ13_bitCount_95d88 28 = .ok (.ladd, 1) := by decide +kernel
theorem dJ13_bitCount_95d88_29 : decode cJ13_bitCount_95d88 29 = .ok (.ldc2_w 318, 3) := by decide +kernel
theorem dJ13_bitCount_95d88_32 : decode cJ13_bitCount_95d88 32 = .ok (.land, 1) := by decide +kernel
theorem dJ13_bitCount_95d88_33 : decode cJ13_bitCount_95d88 33 = .ok (.lstore_n 0, 1) := by decide +kernel
theorem dJ13_bitCount_95d88_34 : decode cJ13_bitCount_95d88 34 = .ok (.lload_n 0, 1) := by decide +kernel
theorem dJ13_bitCount_95d88_35 : decode cJ13_bitCount_95d88 35 = .ok (.lload_n 0, 1) := by decide +kernel
theorem dJ13_bitCount_95d88_36 : decode cJ13_bitCount_95d88 36 = .ok (.bipush 8, 2) := by decide +kernel
theorem dJ13_bitCount_95d88_38 : decode cJ13_bitCount_95d88 38 = .ok (.lushr, 1) := by decide +kernel
theorem dJ13_bitCount_95d88_39 : decode cJ13_bitCount_95d88 39 = .ok (.ladd, 1) := by decide +kernel
theorem dJ13_bitCount_95d88_40 : decode cJ13_bitCount_95d88 40 = .ok (.lstore_n 0, 1) := by decide +kernel
theorem dJ13_bitCount_95d88_41 : decode cJ13_bitCount_95d88 41 = .ok (.lload_n 0, 1) := by decide +kernel
theorem dJ13_bitCount_95d88_42 : decode cJ13_bitCount_95d88 42 = .ok (.lload_n 0, 1) := by decide +kernel
theorem dJ13_bitCount_95d88_43 : decode cJ13_bitCount_95d88 43 = .ok (.bipush 16, 2) := by decide +kernel
theorem dJ13_bitCount_95d88_45 : decode cJ13_bitCount_95d88 45 = .ok (.lushr, 1) := by decide +kernel
theorem dJ13_bitCount_95d88_46 : decode cJ13_bitCount_95d88 46 = .ok (.ladd, 1) := by decide +kernel
theorem dJ13_bitCount_95d88_47 : decode cJ13_bitCount_95d88 47 = .ok (.lstore_n 0, 1) := by decide +kernel
theorem dJ13_bitCount_95d88_48 : decode cJ13_bitCount_95d88 48 = .ok (.lload_n 0, 1) := by decide +kernel
theorem dJ13_bitCount_95d88_49 : decode cJ13_bitCount_95d88 49 = .ok (.lload_n 0, 1) := by decide +kernel
theorem dJ13_bitCount_95d88_50 : decode cJ13_bitCount_95d88 50 = .ok (.bipush 32, 2) := by decide +kernel
theorem dJ13_bitCount_95d88_52 : decode cJ13_bitCount_95d88 52 = .ok (.lushr, 1) := by decide +kernel
theorem dJ13_bitCount_95d88_53 : decode cJ13_bitCount_95d88 53 = .ok (.ladd, 1) := by decide +kernel
theorem dJ13_bitCount_95d88_54 : decode cJ13_bitCount_95d88 54 = .ok (.lstore_n 0, 1) := by decide +kernel
theorem dJ13_bitCount_95d88_55 : decode cJ13_bitCount_95d88 55 = .ok (.lload_n 0, 1) := by decide +kernel
theorem dJ13_bitCount_95d88_56 : decode cJ13_bitCount_95d88 56 = .ok (.l2i, 1) := by decide +kernel
theorem dJ13_bitCount_95d88_57 : decode cJ13_bitCount_95d88 57 = .ok (.bipush 127, 2) := by decide +kernel
theorem dJ13_bitCount_95d88_59 : decode cJ13_bitCount_95d88 59 = .ok (.iand, 1) := by decide +kernel
theorem dJ13_bitCount_95d88_60 : decode cJ13_bitCount_95d88 60 = .ok (.ireturn, 1) := by decide +kernel
theorem dJ9_max_7cf53_0 : decode cJ9_max_7cf53 0 = .ok (.iload_n 0, 1) := by decide +kernel
theorem dJ9_max_7cf53_1 : decode cJ9_max_7cf53 1 = .ok (.iload_n 1, 1) := by decide +kernel
theorem dJ9_max_7cf53_2 : decode cJ9_max_7cf53 2 = .ok (.if_icmp .lt 7, 3) := by decide +kernel
theorem dJ9_max_7cf53_5 : decode cJ9_max_7cf53 5 = .ok (.iload_n 0, 1) := by decide +kernel
theorem dJ9_max_7cf53_6 : decode cJ9_max_7cf53 6 = .ok (.goto 4, 3) := by decide +kernel
theorem dJ9_max_7cf53_9 : decode cJ9_max_7cf53 9 = .ok (.iload_n 1, 1) := by decide +kernel
theorem dJ9_max_7cf53_10 : decode cJ9_max_7cf53 10 = .ok (.ireturn, 1) := by decide +kernel
theorem dJ7_fill_53178_0 : decode cJ7_fill_53178 0 = .ok (.iconst 0, 1) := by decide +kernel
theorem dJ7_fill_53178_1 : decode cJ7_fill_53178 1 = .ok (.istore_n 2, 1) := by decide +kernel
theorem dJ7_fill_53178_2 : decode cJ7_fill_53178 2 = .ok (.aload_n 0, 1) := by decide +kernel
theorem dJ7_fill_53178_3 : decode cJ7_fill_53178 3 = .ok (.arraylength, 1) := by decide +kernel
theorem dJ7_fill_53178_4 : decode cJ7_fill_53178 4 = .ok (.istore_n 3, 1) := by decide +kernel
theorem dJ7_fill_53178_5 : decode cJ7_fill_53178 5 = .ok (.iload_n 2, 1) := by decide +kernel
theorem dJ7_fill_53178_6 : decode cJ7_fill_53178 6 = .ok (.iload_n 3, 1) := by decide +kernel
theorem dJ7_fill_53178_7 : decode cJ7_fill_53178 7 = .ok (.if_icmp .ge 13, 3) := by decide +kernel
theorem dJ7_fill_53178_10 : decode cJ7_fill_53178 10 = .ok (.aload_n 0, 1) := by decide +kernel
theorem dJ7_fill_53178_11 : decode cJ7_fill_53178 11 = .ok (.iload_n 2, 1) := by decide +kernel
theorem dJ7_fill_53178_12 : decode cJ7_fill_53178 12 = .ok (.iload_n 1, 1) := by decide +kernel
theorem dJ7_fill_53178_13 : decode cJ7_fill_53178 13 = .ok (.iastore, 1) := by decide +kernel
theorem dJ7_fill_53178_14 : decode cJ7_fill_53178 14 = .ok (.iinc 2 1, 3) := by decide +kernel
theorem dJ7_fill_53178_17 : decode cJ7_fill_53178 17 = .ok (.goto (-12), 3) := by decide +kernel
theorem dJ7_fill_53178_20 : decode cJ7_fill_53178 20 = .ok (.return_, 1) := by decide +kernel
theorem dL_law_0 : decode cL_law 0 = .ok (.new 7, 3) := by decide +kernel
theorem dL_law_3 : decode cL_law 3 = .ok (.dup, 1) := by decide +kernel
theorem dL_law_4 : decode cL_law 4 = .ok (.invokespecial 9, 3) := by decide +kernel
theorem dL_law_7 : decode cL_law 7 = .ok (.astore_n 1, 1) := by decide +kernel
theorem dL_law_8 : decode cL_law 8 = .ok (.new 10, 3) := by decide +kernel
theorem dL_law_11 : decode cL_law 11 = .ok (.dup, 1) := by decide +kernel
theorem dL_law_12 : decode cL_law 12 = .ok (.invokespecial 12, 3) := by decide +kernel
theorem dL_law_15 : decode cL_law 15 = .ok (.astore_n 2, 1) := by decide +kernel
theorem dL_law_16 : decode cL_law 16 = .ok (.iconst 0, 1) := by decide +kernel
theorem dL_law_17 : decode cL_law 17 = .ok (.istore_n 3, 1) := by decide +kernel
theorem dL_law_18 : decode cL_law 18 = .ok (.iload_n 3, 1) := by decide +kernel
theorem dL_law_19 : decode cL_law 19 = .ok (.aload_n 0, 1) := by decide +kernel
theorem dL_law_20 : decode cL_law 20 = .ok (.arraylength, 1) := by decide +kernel
theorem dL_law_21 : decode cL_law 21 = .ok (.iconst 5, 1) := by decide +kernel
theorem dL_law_22 : decode cL_law 22 = .ok (.isub, 1) := by decide +kernel
theorem dL_law_23 : decode cL_law 23 = .ok (.if_icmp .gt 1048, 3) := by decide +kernel
theorem dL_law_26 : decode cL_law 26 = .ok (.aload_n 0, 1) := by decide +kernel
theorem dL_law_27 : decode cL_law 27 = .ok (.iload_n 3, 1) := by decide +kernel
theorem dL_law_28 : decode cL_law 28 = .ok (.iaload, 1) := by decide +kernel
theorem dL_law_29 : decode cL_law 29 = .ok (.bipush 31, 2) := by decide +kernel
theorem dL_law_31 : decode cL_law 31 = .ok (.iand, 1) := by decide +kernel
theorem dL_law_32 : decode cL_law 32 = .ok (.tableswitch 1033 0 31 #[144, 167, 180, 193, 206, 229, 262, 295, 328, 361, 394, 417, 430, 443, 476, 525, 538, 561, 604, 617, 630, 653, 686, 699, 722, 735, 788, 841, 910, 964, 987, 1010], 144) := by decide +kernel
theorem dL_law_176 : decode cL_law 176 = .ok (.aload_n 1, 1) := by decide +kernel
theorem dL_law_177 : decode cL_law 177 = .ok (.aload_n 0, 1) := by decide +kernel
theorem dL_law_178 : decode cL_law 178 = .ok (.iload_n 3, 1) := by decide +kernel
theorem dL_law_179 : decode cL_law 179 = .ok (.iconst 1, 1) := by decide +kernel
theorem dL_law_180 : decode cL_law 180 = .ok (.iadd, 1) := by decide +kernel
theorem dL_law_181 : decode cL_law 181 = .ok (.iaload, 1) := by decide +kernel
theorem dL_law_182 : decode cL_law 182 = .ok (.invokevirtual 13, 3) := by decide +kernel
theorem dL_law_185 : decode cL_law 185 = .ok (.aload_n 2, 1) := by decide +kernel
theorem dL_law_186 : decode cL_law 186 = .ok (.aload_n 0, 1) := by decide +kernel
theorem dL_law_187 : decode cL_law 187 = .ok (.iload_n 3, 1) := by decide +kernel
theorem dL_law_188 : decode cL_law 188 = .ok (.iconst 1, 1) := by decide +kernel
theorem dL_law_189 : decode cL_law 189 = .ok (.iadd, 1) := by decide +kernel
theorem dL_law_190 : decode cL_law 190 = .ok (.iaload, 1) := by decide +kernel
theorem dL_law_191 : decode cL_law 191 = .ok (.invokevirtual 17, 3) := by decide +kernel
theorem dL_law_194 : decode cL_law 194 = .ok (.if_icmp .eq 871, 3) := by decide +kernel
theorem dL_law_197 : decode cL_law 197 = .ok (.iconst 0, 1) := by decide +kernel
theorem dL_law_198 : decode cL_law 198 = .ok (.ireturn, 1) := by decide +kernel
theorem dL_law_199 : decode cL_law 199 = .ok (.aload_n 1, 1) := by decide +kernel
theorem dL_law_200 : decode cL_law 200 = .ok (.invokevirtual 18, 3) := by decide +kernel
theorem dL_law_203 : decode cL_law 203 = .ok (.aload_n 2, 1) := by decide +kernel
theorem dL_law_204 : decode cL_law 204 = .ok (.invokevirtual 22, 3) := by decide +kernel
theorem dL_law_207 : decode cL_law 207 = .ok (.if_icmp .eq 858, 3) := by decide +kernel
theorem dL_law_210 : decode cL_law 210 = .ok (.iconst 0, 1) := by decide +kernel
theorem dL_law_211 : decode cL_law 211 = .ok (.ireturn, 1) := by decide +kernel
theorem dL_law_212 : decode cL_law 212 = .ok (.aload_n 1, 1) := by decide +kernel
theorem dL_law_213 : decode cL_law 213 = .ok (.invokevirtual 23, 3) := by decide +kernel
theorem dL_law_216 : decode cL_law 216 = .ok (.aload_n 2, 1) := by decide +kernel
theorem dL_law_217 : decode cL_law 217 = .ok (.invokevirtual 26, 3) := by decide +kernel
theorem dL_law_220 : decode cL_law 220 = .ok (.if_icmp .eq 845, 3) := by decide +kernel
theorem dL_law_223 : decode cL_law 223 = .ok (.iconst 0, 1) := by decide +kernel
theorem dL_law_224 : decode cL_law 224 = .ok (.ireturn, 1) := by decide +kernel
theorem dL_law_225 : decode cL_law 225 = .ok (.aload_n 1, 1) := by decide +kernel
theorem dL_law_226 : decode cL_law 226 = .ok (.invokevirtual 27, 3) := by decide +kernel
theorem dL_law_229 : decode cL_law 229 = .ok (.aload_n 2, 1) := by decide +kernel
theorem dL_law_230 : decode cL_law 230 = .ok (.invokevirtual 30, 3) := by decide +kernel
theorem dL_law_233 : decode cL_law 233 = .ok (.if_icmp .eq 832, 3) := by decide +kernel
theorem dL_law_236 : decode cL_law 236 = .ok (.iconst 0, 1) := by decide +kernel
theorem dL_law_237 : decode cL_law 237 = .ok (.ireturn, 1) := by decide +kernel
theorem dL_law_238 : decode cL_law 238 = .ok (.aload_n 1, 1) := by decide +kernel
theorem dL_law_239 : decode cL_law 239 = .ok (.aload_n 0, 1) := by decide +kernel
theorem dL_law_240 : decode cL_law 240 = .ok (.iload_n 3, 1) := by decide +kernel
theorem dL_law_241 : decode cL_law 241 = .ok (.iconst 1, 1) := by decide +kernel
theorem dL_law_242 : decode cL_law 242 = .ok (.iadd, 1) := by decide +kernel
theorem dL_law_243 : decode cL_law 243 = .ok (.iaload, 1) := by decide +kernel
theorem dL_law_244 : decode cL_law 244 = .ok (.invokevirtual 31, 3) := by decide +kernel
theorem dL_law_247 : decode cL_law 247 = .ok (.aload_n 2, 1) := by decide +kernel
theorem dL_law_248 : decode cL_law 248 = .ok (.aload_n 0, 1) := by decide +kernel
theorem dL_law_249 : decode cL_law 249 = .ok (.iload_n 3, 1) := by decide +kernel
theorem dL_law_250 : decode cL_law 250 = .ok (.iconst 1, 1) := by decide +kernel
theorem dL_law_251 : decode cL_law 251 = .ok (.iadd, 1) := by decide +kernel
theorem dL_law_252 : decode cL_law 252 = .ok (.iaload, 1) := by decide +kernel
theorem dL_law_253 : decode cL_law 253 = .ok (.invokevirtual 34, 3) := by decide +kernel
theorem dL_law_256 : decode cL_law 256 = .ok (.if_icmp .eq 809, 3) := by decide +kernel
theorem dL_law_259 : decode cL_law 259 = .ok (.iconst 0, 1) := by decide +kernel
theorem dL_law_260 : decode cL_law 260 = .ok (.ireturn, 1) := by decide +kernel
theorem dL_law_261 : decode cL_law 261 = .ok (.aload_n 1, 1) := by decide +kernel
theorem dL_law_262 : decode cL_law 262 = .ok (.aload_n 0, 1) := by decide +kernel
theorem dL_law_263 : decode cL_law 263 = .ok (.iload_n 3, 1) := by decide +kernel
theorem dL_law_264 : decode cL_law 264 = .ok (.iconst 1, 1) := by decide +kernel
theorem dL_law_265 : decode cL_law 265 = .ok (.iadd, 1) := by decide +kernel
theorem dL_law_266 : decode cL_law 266 = .ok (.iaload, 1) := by decide +kernel
theorem dL_law_267 : decode cL_law 267 = .ok (.aload_n 0, 1) := by decide +kernel
theorem dL_law_268 : decode cL_law 268 = .ok (.iload_n 3, 1) := by decide +kernel
theorem dL_law_269 : decode cL_law 269 = .ok (.iconst 2, 1) := by decide +kernel
theorem dL_law_270 : decode cL_law 270 = .ok (.iadd, 1) := by decide +kernel
theorem dL_law_271 : decode cL_law 271 = .ok (.iaload, 1) := by decide +kernel
theorem dL_law_272 : decode cL_law 272 = .ok (.invokevirtual 35, 3) := by decide +kernel
theorem dL_law_275 : decode cL_law 275 = .ok (.aload_n 2, 1) := by decide +kernel
theorem dL_law_276 : decode cL_law 276 = .ok (.aload_n 0, 1) := by decide +kernel
theorem dL_law_277 : decode cL_law 277 = .ok (.iload_n 3, 1) := by decide +kernel
theorem dL_law_278 : decode cL_law 278 = .ok (.iconst 1, 1) := by decide +kernel
theorem dL_law_279 : decode cL_law 279 = .ok (.iadd, 1) := by decide +kernel
theorem dL_law_280 : decode cL_law 280 = .ok (.iaload, 1) := by decide +kernel
theorem dL_law_281 : decode cL_law 281 = .ok (.aload_n 0, 1) := by decide +kernel
theorem dL_law_282 : decode cL_law 282 = .ok (.iload_n 3, 1) := by decide +kernel
theorem dL_law_283 : decode cL_law 283 = .ok (.iconst 2, 1) := by decide +kernel
theorem dL_law_284 : decode cL_law 284 = .ok (.iadd, 1) := by decide +kernel
theorem dL_law_285 : decode cL_law 285 = .ok (.iaload, 1) := by decide +kernel
theorem dL_law_286 : decode cL_law 286 = .ok (.invokevirtual 39, 3) := by decide +kernel
theorem dL_law_289 : decode cL_law 289 = .ok (.if_icmp .eq 776, 3) := by decide +kernel
theorem dL_law_292 : decode cL_law 292 = .ok (.iconst 0, 1) := by decide +kernel
theorem dL_law_293 : decode cL_law 293 = .ok (.ireturn, 1) := by decide +kernel
theorem dL_law_294 : decode cL_law 294 = .ok (.aload_n 1, 1) := by decide +kernel
theorem dL_law_295 : decode cL_law 295 = .ok (.aload_n 0, 1) := by decide +kernel
theorem dL_law_296 : decode cL_law 296 = .ok (.iload_n 3, 1) := by decide +kernel
theorem dL_law_297 : decode cL_law 297 = .ok (.iconst 1, 1) := by decide +kernel
theorem dL_law_298 : decode cL_law 298 = .ok (.iadd, 1) := by decide +kernel
theorem dL_law_299 : decode cL_law 299 = .ok (.iaload, 1) := by decide +kernel
theorem dL_law_300 : decode cL_law 300 = .ok (.aload_n 0, 1) := by decide +kernel
theorem dL_law_301 : decode cL_law 301 = .ok (.iload_n 3, 1) := by decide +kernel
theorem dL_law_302 : decode cL_law 302 = .ok (.iconst 2, 1) := by decide +kernel
theorem dL_law_303 : decode cL_law 303 = .ok (.iadd, 1) := by decide +kernel
theorem dL_law_304 : decode cL_law 304 = .ok (.iaload, 1) := by decide +kernel
theorem dL_law_305 : decode cL_law 305 = .ok (.invokevirtual 40, 3) := by decide +kernel
theorem dL_law_308 : decode cL_law 308 = .ok (.aload_n 2, 1) := by decide +kernel
theorem dL_law_309 : decode cL_law 309 = .ok (.aload_n 0, 1) := by decide +kernel
theorem dL_law_310 : decode cL_law 310 = .ok (.iload_n 3, 1) := by decide +kernel
theorem dL_law_311 : decode cL_law 311 = .ok (.iconst 1, 1) := by decide +kernel
theorem dL_law_312 : decode cL_law 312 = .ok (.iadd, 1) := by decide +kernel
theorem dL_law_313 : decode cL_law 313 = .ok (.iaload, 1) := by decide +kernel
theorem dL_law_314 : decode cL_law 314 = .ok (.aload_n 0, 1) := by decide +kernel
theorem dL_law_315 : decode cL_law 315 = .ok (.iload_n 3, 1) := by decide +kernel
theorem dL_law_316 : decode cL_law 316 = .ok (.iconst 2, 1) := by decide +kernel
theorem dL_law_317 : decode cL_law 317 = .ok (.iadd, 1) := by decide +kernel
theorem dL_law_318 : decode cL_law 318 = .ok (.iaload, 1) := by decide +kernel
theorem dL_law_319 : decode cL_law 319 = .ok (.invokevirtual 43, 3) := by decide +kernel
theorem dL_law_322 : decode cL_law 322 = .ok (.if_icmp .eq 743, 3) := by decide +kernel
theorem dL_law_325 : decode cL_law 325 = .ok (.iconst 0, 1) := by decide +kernel
theorem dL_law_326 : decode cL_law 326 = .ok (.ireturn, 1) := by decide +kernel
theorem dL_law_327 : decode cL_law 327 = .ok (.aload_n 1, 1) := by decide +kernel
theorem dL_law_328 : decode cL_law 328 = .ok (.aload_n 0, 1) := by decide +kernel
theorem dL_law_329 : decode cL_law 329 = .ok (.iload_n 3, 1) := by decide +kernel
theorem dL_law_330 : decode cL_law 330 = .ok (.iconst 1, 1) := by decide +kernel
theorem dL_law_331 : decode cL_law 331 = .ok (.iadd, 1) := by decide +kernel
theorem dL_law_332 : decode cL_law 332 = .ok (.iaload, 1) := by decide +kernel
theorem dL_law_333 : decode cL_law 333 = .ok (.aload_n 0, 1) := by decide +kernel
theorem dL_law_334 : decode cL_law 334 = .ok (.iload_n 3, 1) := by decide +kernel
theorem dL_law_335 : decode cL_law 335 = .ok (.iconst 2, 1) := by decide +kernel
theorem dL_law_336 : decode cL_law 336 = .ok (.iadd, 1) := by decide +kernel
theorem dL_law_337 : decode cL_law 337 = .ok (.iaload, 1) := by decide +kernel
theorem dL_law_338 : decode cL_law 338 = .ok (.invokevirtual 44, 3) := by decide +kernel
theorem dL_law_341 : decode cL_law 341 = .ok (.aload_n 2, 1) := by decide +kernel
theorem dL_law_342 : decode cL_law 342 = .ok (.aload_n 0, 1) := by decide +kernel
theorem dL_law_343 : decode cL_law 343 = .ok (.iload_n 3, 1) := by decide +kernel
theorem dL_law_344 : decode cL_law 344 = .ok (.iconst 1, 1) := by decide +kernel
theorem dL_law_345 : decode cL_law 345 = .ok (.iadd, 1) := by decide +kernel
theorem dL_law_346 : decode cL_law 346 = .ok (.iaload, 1) := by decide +kernel
theorem dL_law_347 : decode cL_law 347 = .ok (.aload_n 0, 1) := by decide +kernel
theorem dL_law_348 : decode cL_law 348 = .ok (.iload_n 3, 1) := by decide +kernel
theorem dL_law_349 : decode cL_law 349 = .ok (.iconst 2, 1) := by decide +kernel
theorem dL_law_350 : decode cL_law 350 = .ok (.iadd, 1) := by decide +kernel
theorem dL_law_351 : decode cL_law 351 = .ok (.iaload, 1) := by decide +kernel
theorem dL_law_352 : decode cL_law 352 = .ok (.invokevirtual 47, 3) := by decide +kernel
theorem dL_law_355 : decode cL_law 355 = .ok (.if_icmp .eq 710, 3) := by decide +kernel
theorem dL_law_358 : decode cL_law 358 = .ok (.iconst 0, 1) := by decide +kernel
theorem dL_law_359 : decode cL_law 359 = .ok (.ireturn, 1) := by decide +kernel
theorem dL_law_360 : decode cL_law 360 = .ok (.aload_n 1, 1) := by decide +kernel
theorem dL_law_361 : decode cL_law 361 = .ok (.aload_n 0, 1) := by decide +kernel
theorem dL_law_362 : decode cL_law 362 = .ok (.iload_n 3, 1) := by decide +kernel
theorem dL_law_363 : decode cL_law 363 = .ok (.iconst 1, 1) := by decide +kernel
theorem dL_law_364 : decode cL_law 364 = .ok (.iadd, 1) := by decide +kernel
theorem dL_law_365 : decode cL_law 365 = .ok (.iaload, 1) := by decide +kernel
theorem dL_law_366 : decode cL_law 366 = .ok (.aload_n 0, 1) := by decide +kernel
theorem dL_law_367 : decode cL_law 367 = .ok (.iload_n 3, 1) := by decide +kernel
theorem dL_law_368 : decode cL_law 368 = .ok (.iconst 2, 1) := by decide +kernel
theorem dL_law_369 : decode cL_law 369 = .ok (.iadd, 1) := by decide +kernel
theorem dL_law_370 : decode cL_law 370 = .ok (.iaload, 1) := by decide +kernel
theorem dL_law_371 : decode cL_law 371 = .ok (.invokevirtual 48, 3) := by decide +kernel
theorem dL_law_374 : decode cL_law 374 = .ok (.aload_n 2, 1) := by decide +kernel
theorem dL_law_375 : decode cL_law 375 = .ok (.aload_n 0, 1) := by decide +kernel
theorem dL_law_376 : decode cL_law 376 = .ok (.iload_n 3, 1) := by decide +kernel
theorem dL_law_377 : decode cL_law 377 = .ok (.iconst 1, 1) := by decide +kernel
theorem dL_law_378 : decode cL_law 378 = .ok (.iadd, 1) := by decide +kernel
theorem dL_law_379 : decode cL_law 379 = .ok (.iaload, 1) := by decide +kernel
theorem dL_law_380 : decode cL_law 380 = .ok (.aload_n 0, 1) := by decide +kernel
theorem dL_law_381 : decode cL_law 381 = .ok (.iload_n 3, 1) := by decide +kernel
theorem dL_law_382 : decode cL_law 382 = .ok (.iconst 2, 1) := by decide +kernel
theorem dL_law_383 : decode cL_law 383 = .ok (.iadd, 1) := by decide +kernel
theorem dL_law_384 : decode cL_law 384 = .ok (.iaload, 1) := by decide +kernel
theorem dL_law_385 : decode cL_law 385 = .ok (.invokevirtual 51, 3) := by decide +kernel
theorem dL_law_388 : decode cL_law 388 = .ok (.if_icmp .eq 677, 3) := by decide +kernel
theorem dL_law_391 : decode cL_law 391 = .ok (.iconst 0, 1) := by decide +kernel
theorem dL_law_392 : decode cL_law 392 = .ok (.ireturn, 1) := by decide +kernel
theorem dL_law_393 : decode cL_law 393 = .ok (.aload_n 1, 1) := by decide +kernel
theorem dL_law_394 : decode cL_law 394 = .ok (.aload_n 0, 1) := by decide +kernel
theorem dL_law_395 : decode cL_law 395 = .ok (.iload_n 3, 1) := by decide +kernel
theorem dL_law_396 : decode cL_law 396 = .ok (.iconst 1, 1) := by decide +kernel
theorem dL_law_397 : decode cL_law 397 = .ok (.iadd, 1) := by decide +kernel
theorem dL_law_398 : decode cL_law 398 = .ok (.iaload, 1) := by decide +kernel
theorem dL_law_399 : decode cL_law 399 = .ok (.aload_n 0, 1) := by decide +kernel
theorem dL_law_400 : decode cL_law 400 = .ok (.iload_n 3, 1) := by decide +kernel
theorem dL_law_401 : decode cL_law 401 = .ok (.iconst 2, 1) := by decide +kernel
theorem dL_law_402 : decode cL_law 402 = .ok (.iadd, 1) := by decide +kernel
theorem dL_law_403 : decode cL_law 403 = .ok (.iaload, 1) := by decide +kernel
theorem dL_law_404 : decode cL_law 404 = .ok (.invokevirtual 52, 3) := by decide +kernel
theorem dL_law_407 : decode cL_law 407 = .ok (.aload_n 2, 1) := by decide +kernel
theorem dL_law_408 : decode cL_law 408 = .ok (.aload_n 0, 1) := by decide +kernel
theorem dL_law_409 : decode cL_law 409 = .ok (.iload_n 3, 1) := by decide +kernel
theorem dL_law_410 : decode cL_law 410 = .ok (.iconst 1, 1) := by decide +kernel
theorem dL_law_411 : decode cL_law 411 = .ok (.iadd, 1) := by decide +kernel
theorem dL_law_412 : decode cL_law 412 = .ok (.iaload, 1) := by decide +kernel
theorem dL_law_413 : decode cL_law 413 = .ok (.aload_n 0, 1) := by decide +kernel
theorem dL_law_414 : decode cL_law 414 = .ok (.iload_n 3, 1) := by decide +kernel
theorem dL_law_415 : decode cL_law 415 = .ok (.iconst 2, 1) := by decide +kernel
theorem dL_law_416 : decode cL_law 416 = .ok (.iadd, 1) := by decide +kernel
theorem dL_law_417 : decode cL_law 417 = .ok (.iaload, 1) := by decide +kernel
theorem dL_law_418 : decode cL_law 418 = .ok (.invokevirtual 55, 3) := by decide +kernel
theorem dL_law_421 : decode cL_law 421 = .ok (.if_icmp .eq 644, 3) := by decide +kernel
theorem dL_law_424 : decode cL_law 424 = .ok (.iconst 0, 1) := by decide +kernel
theorem dL_law_425 : decode cL_law 425 = .ok (.ireturn, 1) := by decide +kernel
theorem dL_law_426 : decode cL_law 426 = .ok (.aload_n 1, 1) := by decide +kernel
theorem dL_law_427 : decode cL_law 427 = .ok (.aload_n 0, 1) := by decide +kernel
theorem dL_law_428 : decode cL_law 428 = .ok (.iload_n 3, 1) := by decide +kernel
theorem dL_law_429 : decode cL_law 429 = .ok (.iconst 1, 1) := by decide +kernel
theorem dL_law_430 : decode cL_law 430 = .ok (.iadd, 1) := by decide +kernel
theorem dL_law_431 : decode cL_law 431 = .ok (.iaload, 1) := by decide +kernel
theorem dL_law_432 : decode cL_law 432 = .ok (.invokevirtual 56, 3) := by decide +kernel
theorem dL_law_435 : decode cL_law 435 = .ok (.aload_n 2, 1) := by decide +kernel
theorem dL_law_436 : decode cL_law 436 = .ok (.aload_n 0, 1) := by decide +kernel
theorem dL_law_437 : decode cL_law 437 = .ok (.iload_n 3, 1) := by decide +kernel
theorem dL_law_438 : decode cL_law 438 = .ok (.iconst 1, 1) := by decide +kernel
theorem dL_law_439 : decode cL_law 439 = .ok (.iadd, 1) := by decide +kernel
theorem dL_law_440 : decode cL_law 440 = .ok (.iaload, 1) := by decide +kernel
theorem dL_law_441 : decode cL_law 441 = .ok (.invokevirtual 59, 3) := by decide +kernel
theorem dL_law_444 : decode cL_law 444 = .ok (.if_icmp .eq 621, 3) := by decide +kernel
theorem dL_law_447 : decode cL_law 447 = .ok (.iconst 0, 1) := by decide +kernel
theorem dL_law_448 : decode cL_law 448 = .ok (.ireturn, 1) := by decide +kernel
theorem dL_law_449 : decode cL_law 449 = .ok (.aload_n 1, 1) := by decide +kernel
theorem dL_law_450 : decode cL_law 450 = .ok (.invokevirtual 60, 3) := by decide +kernel
theorem dL_law_453 : decode cL_law 453 = .ok (.aload_n 2, 1) := by decide +kernel
theorem dL_law_454 : decode cL_law 454 = .ok (.invokevirtual 63, 3) := by decide +kernel
theorem dL_law_457 : decode cL_law 457 = .ok (.if_icmp .eq 608, 3) := by decide +kernel
theorem dL_law_460 : decode cL_law 460 = .ok (.iconst 0, 1) := by decide +kernel
theorem dL_law_461 : decode cL_law 461 = .ok (.ireturn, 1) := by decide +kernel
theorem dL_law_462 : decode cL_law 462 = .ok (.aload_n 1, 1) := by decide +kernel
theorem dL_law_463 : decode cL_law 463 = .ok (.invokevirtual 64, 3) := by decide +kernel
theorem dL_law_466 : decode cL_law 466 = .ok (.aload_n 2, 1) := by decide +kernel
theorem dL_law_467 : decode cL_law 467 = .ok (.invokevirtual 67, 3) := by decide +kernel
theorem dL_law_470 : decode cL_law 470 = .ok (.if_icmp .eq 595, 3) := by decide +kernel
theorem dL_law_473 : decode cL_law 473 = .ok (.iconst 0, 1) := by decide +kernel
theorem dL_law_474 : decode cL_law 474 = .ok (.ireturn, 1) := by decide +kernel
theorem dL_law_475 : decode cL_law 475 = .ok (.aload_n 1, 1) := by decide +kernel
theorem dL_law_476 : decode cL_law 476 = .ok (.aload_n 0, 1) := by decide +kernel
theorem dL_law_477 : decode cL_law 477 = .ok (.iload_n 3, 1) := by decide +kernel
theorem dL_law_478 : decode cL_law 478 = .ok (.iconst 1, 1) := by decide +kernel
theorem dL_law_479 : decode cL_law 479 = .ok (.iadd, 1) := by decide +kernel
theorem dL_law_480 : decode cL_law 480 = .ok (.iaload, 1) := by decide +kernel
theorem dL_law_481 : decode cL_law 481 = .ok (.aload_n 0, 1) := by decide +kernel
theorem dL_law_482 : decode cL_law 482 = .ok (.iload_n 3, 1) := by decide +kernel
theorem dL_law_483 : decode cL_law 483 = .ok (.iconst 2, 1) := by decide +kernel
theorem dL_law_484 : decode cL_law 484 = .ok (.iadd, 1) := by decide +kernel
theorem dL_law_485 : decode cL_law 485 = .ok (.iaload, 1) := by decide +kernel
theorem dL_law_486 : decode cL_law 486 = .ok (.invokevirtual 68, 3) := by decide +kernel
theorem dL_law_489 : decode cL_law 489 = .ok (.aload_n 2, 1) := by decide +kernel
theorem dL_law_490 : decode cL_law 490 = .ok (.aload_n 0, 1) := by decide +kernel
theorem dL_law_491 : decode cL_law 491 = .ok (.iload_n 3, 1) := by decide +kernel
theorem dL_law_492 : decode cL_law 492 = .ok (.iconst 1, 1) := by decide +kernel
theorem dL_law_493 : decode cL_law 493 = .ok (.iadd, 1) := by decide +kernel
theorem dL_law_494 : decode cL_law 494 = .ok (.iaload, 1) := by decide +kernel
theorem dL_law_495 : decode cL_law 495 = .ok (.aload_n 0, 1) := by decide +kernel
theorem dL_law_496 : decode cL_law 496 = .ok (.iload_n 3, 1) := by decide +kernel
theorem dL_law_497 : decode cL_law 497 = .ok (.iconst 2, 1) := by decide +kernel
theorem dL_law_498 : decode cL_law 498 = .ok (.iadd, 1) := by decide +kernel
theorem dL_law_499 : decode cL_law 499 = .ok (.iaload, 1) := by decide +kernel
theorem dL_law_500 : decode cL_law 500 = .ok (.invokevirtual 71, 3) := by decide +kernel
theorem dL_law_503 : decode cL_law 503 = .ok (.if_icmp .eq 562, 3) := by decide +kernel
theorem dL_law_506 : decode cL_law 506 = .ok (.iconst 0, 1) := by decide +kernel
theorem dL_law_507 : decode cL_law 507 = .ok (.ireturn, 1) := by decide +kernel
theorem dL_law_508 : decode cL_law 508 = .ok (.aload_n 1, 1) := by decide +kernel
theorem dL_law_509 : decode cL_law 509 = .ok (.aload_n 0, 1) := by decide +kernel
theorem dL_law_510 : decode cL_law 510 = .ok (.iload_n 3, 1) := by decide +kernel
theorem dL_law_511 : decode cL_law 511 = .ok (.iconst 1, 1) := by decide +kernel
theorem dL_law_512 : decode cL_law 512 = .ok (.iadd, 1) := by decide +kernel
theorem dL_law_513 : decode cL_law 513 = .ok (.iaload, 1) := by decide +kernel
theorem dL_law_514 : decode cL_law 514 = .ok (.aload_n 0, 1) := by decide +kernel
theorem dL_law_515 : decode cL_law 515 = .ok (.iload_n 3, 1) := by decide +kernel
theorem dL_law_516 : decode cL_law 516 = .ok (.iconst 2, 1) := by decide +kernel
theorem dL_law_517 : decode cL_law 517 = .ok (.iadd, 1) := by decide +kernel
theorem dL_law_518 : decode cL_law 518 = .ok (.iaload, 1) := by decide +kernel
theorem dL_law_519 : decode cL_law 519 = .ok (.ifCond .eq 7, 3) := by decide +kernel
theorem dL_law_522 : decode cL_law 522 = .ok (.iconst 1, 1) := by decide +kernel
theorem dL_law_523 : decode cL_law 523 = .ok (.goto 4, 3) := by decide +kernel
theorem dL_law_526 : decode cL_law 526 = .ok (.iconst 0, 1) := by decide +kernel
theorem dL_law_527 : decode cL_law 527 = .ok (.invokevirtual 72, 3) := by decide +kernel
theorem dL_law_530 : decode cL_law 530 = .ok (.aload_n 2, 1) := by decide +kernel
theorem dL_law_531 : decode cL_law 531 = .ok (.aload_n 0, 1) := by decide +kernel
theorem dL_law_532 : decode cL_law 532 = .ok (.iload_n 3, 1) := by decide +kernel
theorem dL_law_533 : decode cL_law 533 = .ok (.iconst 1, 1) := by decide +kernel
theorem dL_law_534 : decode cL_law 534 = .ok (.iadd, 1) := by decide +kernel
theorem dL_law_535 : decode cL_law 535 = .ok (.iaload, 1) := by decide +kernel
theorem dL_law_536 : decode cL_law 536 = .ok (.aload_n 0, 1) := by decide +kernel
theorem dL_law_537 : decode cL_law 537 = .ok (.iload_n 3, 1) := by decide +kernel
theorem dL_law_538 : decode cL_law 538 = .ok (.iconst 2, 1) := by decide +kernel
theorem dL_law_539 : decode cL_law 539 = .ok (.iadd, 1) := by decide +kernel
theorem dL_law_540 : decode cL_law 540 = .ok (.iaload, 1) := by decide +kernel
theorem dL_law_541 : decode cL_law 541 = .ok (.ifCond .eq 7, 3) := by decide +kernel
theorem dL_law_544 : decode cL_law 544 = .ok (.iconst 1, 1) := by decide +kernel
theorem dL_law_545 : decode cL_law 545 = .ok (.goto 4, 3) := by decide +kernel
theorem dL_law_548 : decode cL_law 548 = .ok (.iconst 0, 1) := by decide +kernel
theorem dL_law_549 : decode cL_law 549 = .ok (.invokevirtual 76, 3) := by decide +kernel
theorem dL_law_552 : decode cL_law 552 = .ok (.if_icmp .eq 513, 3) := by decide +kernel
theorem dL_law_555 : decode cL_law 555 = .ok (.iconst 0, 1) := by decide +kernel
theorem dL_law_556 : decode cL_law 556 = .ok (.ireturn, 1) := by decide +kernel
theorem dL_law_557 : decode cL_law 557 = .ok (.aload_n 1, 1) := by decide +kernel
theorem dL_law_558 : decode cL_law 558 = .ok (.invokevirtual 77, 3) := by decide +kernel
theorem dL_law_561 : decode cL_law 561 = .ok (.aload_n 2, 1) := by decide +kernel
theorem dL_law_562 : decode cL_law 562 = .ok (.invokevirtual 80, 3) := by decide +kernel
theorem dL_law_565 : decode cL_law 565 = .ok (.if_icmp .eq 500, 3) := by decide +kernel
theorem dL_law_568 : decode cL_law 568 = .ok (.iconst 0, 1) := by decide +kernel
theorem dL_law_569 : decode cL_law 569 = .ok (.ireturn, 1) := by decide +kernel
theorem dL_law_570 : decode cL_law 570 = .ok (.aload_n 1, 1) := by decide +kernel
theorem dL_law_571 : decode cL_law 571 = .ok (.aload_n 0, 1) := by decide +kernel
theorem dL_law_572 : decode cL_law 572 = .ok (.iload_n 3, 1) := by decide +kernel
theorem dL_law_573 : decode cL_law 573 = .ok (.iconst 1, 1) := by decide +kernel
theorem dL_law_574 : decode cL_law 574 = .ok (.iadd, 1) := by decide +kernel
theorem dL_law_575 : decode cL_law 575 = .ok (.iaload, 1) := by decide +kernel
theorem dL_law_576 : decode cL_law 576 = .ok (.invokevirtual 81, 3) := by decide +kernel
theorem dL_law_579 : decode cL_law 579 = .ok (.aload_n 2, 1) := by decide +kernel
theorem dL_law_580 : decode cL_law 580 = .ok (.aload_n 0, 1) := by decide +kernel
theorem dL_law_581 : decode cL_law 581 = .ok (.iload_n 3, 1) := by decide +kernel
theorem dL_law_582 : decode cL_law 582 = .ok (.iconst 1, 1) := by decide +kernel
theorem dL_law_583 : decode cL_law 583 = .ok (.iadd, 1) := by decide +kernel
theorem dL_law_584 : decode cL_law 584 = .ok (.iaload, 1) := by decide +kernel
theorem dL_law_585 : decode cL_law 585 = .ok (.invokevirtual 84, 3) := by decide +kernel
theorem dL_law_588 : decode cL_law 588 = .ok (.if_icmp .eq 477, 3) := by decide +kernel
theorem dL_law_591 : decode cL_law 591 = .ok (.iconst 0, 1) := by decide +kernel
theorem dL_law_592 : decode cL_law 592 = .ok (.ireturn, 1) := by decide +kernel
theorem dL_law_593 : decode cL_law 593 = .ok (.aload_n 1, 1) := by decide +kernel
theorem dL_law_594 : decode cL_law 594 = .ok (.aload_n 0, 1) := by decide +kernel
theorem dL_law_595 : decode cL_law 595 = .ok (.iload_n 3, 1) := by decide +kernel
theorem dL_law_596 : decode cL_law 596 = .ok (.iconst 1, 1) := by decide +kernel
theorem dL_law_597 : decode cL_law 597 = .ok (.iadd, 1) := by decide +kernel
theorem dL_law_598 : decode cL_law 598 = .ok (.iaload, 1) := by decide +kernel
theorem dL_law_599 : decode cL_law 599 = .ok (.aload_n 0, 1) := by decide +kernel
theorem dL_law_600 : decode cL_law 600 = .ok (.iload_n 3, 1) := by decide +kernel
theorem dL_law_601 : decode cL_law 601 = .ok (.iconst 2, 1) := by decide +kernel
theorem dL_law_602 : decode cL_law 602 = .ok (.iadd, 1) := by decide +kernel
theorem dL_law_603 : decode cL_law 603 = .ok (.iaload, 1) := by decide +kernel
theorem dL_law_604 : decode cL_law 604 = .ok (.aload_n 0, 1) := by decide +kernel
theorem dL_law_605 : decode cL_law 605 = .ok (.iload_n 3, 1) := by decide +kernel
theorem dL_law_606 : decode cL_law 606 = .ok (.iconst 3, 1) := by decide +kernel
theorem dL_law_607 : decode cL_law 607 = .ok (.iadd, 1) := by decide +kernel
theorem dL_law_608 : decode cL_law 608 = .ok (.iaload, 1) := by decide +kernel
theorem dL_law_609 : decode cL_law 609 = .ok (.invokevirtual 85, 3) := by decide +kernel
theorem dL_law_612 : decode cL_law 612 = .ok (.aload_n 2, 1) := by decide +kernel
theorem dL_law_613 : decode cL_law 613 = .ok (.aload_n 0, 1) := by decide +kernel
theorem dL_law_614 : decode cL_law 614 = .ok (.iload_n 3, 1) := by decide +kernel
theorem dL_law_615 : decode cL_law 615 = .ok (.iconst 1, 1) := by decide +kernel
theorem dL_law_616 : decode cL_law 616 = .ok (.iadd, 1) := by decide +kernel
theorem dL_law_617 : decode cL_law 617 = .ok (.iaload, 1) := by decide +kernel
theorem dL_law_618 : decode cL_law 618 = .ok (.aload_n 0, 1) := by decide +kernel
theorem dL_law_619 : decode cL_law 619 = .ok (.iload_n 3, 1) := by decide +kernel
theorem dL_law_620 : decode cL_law 620 = .ok (.iconst 2, 1) := by decide +kernel
theorem dL_law_621 : decode cL_law 621 = .ok (.iadd, 1) := by decide +kernel
theorem dL_law_622 : decode cL_law 622 = .ok (.iaload, 1) := by decide +kernel
theorem dL_law_623 : decode cL_law 623 = .ok (.aload_n 0, 1) := by decide +kernel
theorem dL_law_624 : decode cL_law 624 = .ok (.iload_n 3, 1) := by decide +kernel
theorem dL_law_625 : decode cL_law 625 = .ok (.iconst 3, 1) := by decide +kernel
theorem dL_law_626 : decode cL_law 626 = .ok (.iadd, 1) := by decide +kernel
theorem dL_law_627 : decode cL_law 627 = .ok (.iaload, 1) := by decide +kernel
theorem dL_law_628 : decode cL_law 628 = .ok (.invokevirtual 89, 3) := by decide +kernel
theorem dL_law_631 : decode cL_law 631 = .ok (.if_icmp .eq 434, 3) := by decide +kernel
theorem dL_law_634 : decode cL_law 634 = .ok (.iconst 0, 1) := by decide +kernel
theorem dL_law_635 : decode cL_law 635 = .ok (.ireturn, 1) := by decide +kernel
theorem dL_law_636 : decode cL_law 636 = .ok (.aload_n 1, 1) := by decide +kernel
theorem dL_law_637 : decode cL_law 637 = .ok (.invokevirtual 90, 3) := by decide +kernel
theorem dL_law_640 : decode cL_law 640 = .ok (.aload_n 2, 1) := by decide +kernel
theorem dL_law_641 : decode cL_law 641 = .ok (.invokevirtual 93, 3) := by decide +kernel
theorem dL_law_644 : decode cL_law 644 = .ok (.if_icmp .eq 421, 3) := by decide +kernel
theorem dL_law_647 : decode cL_law 647 = .ok (.iconst 0, 1) := by decide +kernel
theorem dL_law_648 : decode cL_law 648 = .ok (.ireturn, 1) := by decide +kernel
theorem dL_law_649 : decode cL_law 649 = .ok (.aload_n 1, 1) := by decide +kernel
theorem dL_law_650 : decode cL_law 650 = .ok (.invokevirtual 94, 3) := by decide +kernel
theorem dL_law_653 : decode cL_law 653 = .ok (.aload_n 2, 1) := by decide +kernel
theorem dL_law_654 : decode cL_law 654 = .ok (.invokevirtual 97, 3) := by decide +kernel
theorem dL_law_657 : decode cL_law 657 = .ok (.if_icmp .eq 408, 3) := by decide +kernel
theorem dL_law_660 : decode cL_law 660 = .ok (.iconst 0, 1) := by decide +kernel
theorem dL_law_661 : decode cL_law 661 = .ok (.ireturn, 1) := by decide +kernel
theorem dL_law_662 : decode cL_law 662 = .ok (.aload_n 1, 1) := by decide +kernel
theorem dL_law_663 : decode cL_law 663 = .ok (.aload_n 0, 1) := by decide +kernel
theorem dL_law_664 : decode cL_law 664 = .ok (.iload_n 3, 1) := by decide +kernel
theorem dL_law_665 : decode cL_law 665 = .ok (.iconst 1, 1) := by decide +kernel
theorem dL_law_666 : decode cL_law 666 = .ok (.iadd, 1) := by decide +kernel
theorem dL_law_667 : decode cL_law 667 = .ok (.iaload, 1) := by decide +kernel
theorem dL_law_668 : decode cL_law 668 = .ok (.invokevirtual 98, 3) := by decide +kernel
theorem dL_law_671 : decode cL_law 671 = .ok (.aload_n 2, 1) := by decide +kernel
theorem dL_law_672 : decode cL_law 672 = .ok (.aload_n 0, 1) := by decide +kernel
theorem dL_law_673 : decode cL_law 673 = .ok (.iload_n 3, 1) := by decide +kernel
theorem dL_law_674 : decode cL_law 674 = .ok (.iconst 1, 1) := by decide +kernel
theorem dL_law_675 : decode cL_law 675 = .ok (.iadd, 1) := by decide +kernel
theorem dL_law_676 : decode cL_law 676 = .ok (.iaload, 1) := by decide +kernel
theorem dL_law_677 : decode cL_law 677 = .ok (.invokevirtual 101, 3) := by decide +kernel
theorem dL_law_680 : decode cL_law 680 = .ok (.if_icmp .eq 385, 3) := by decide +kernel
theorem dL_law_683 : decode cL_law 683 = .ok (.iconst 0, 1) := by decide +kernel
theorem dL_law_684 : decode cL_law 684 = .ok (.ireturn, 1) := by decide +kernel
theorem dL_law_685 : decode cL_law 685 = .ok (.aload_n 1, 1) := by decide +kernel
theorem dL_law_686 : decode cL_law 686 = .ok (.aload_n 0, 1) := by decide +kernel
theorem dL_law_687 : decode cL_law 687 = .ok (.iload_n 3, 1) := by decide +kernel
theorem dL_law_688 : decode cL_law 688 = .ok (.iconst 1, 1) := by decide +kernel
theorem dL_law_689 : decode cL_law 689 = .ok (.iadd, 1) := by decide +kernel
theorem dL_law_690 : decode cL_law 690 = .ok (.iaload, 1) := by decide +kernel
theorem dL_law_691 : decode cL_law 691 = .ok (.aload_n 0, 1) := by decide +kernel
theorem dL_law_692 : decode cL_law 692 = .ok (.iload_n 3, 1) := by decide +kernel
theorem dL_law_693 : decode cL_law 693 = .ok (.iconst 2, 1) := by decide +kernel
theorem dL_law_694 : decode cL_law 694 = .ok (.iadd, 1) := by decide +kernel
theorem dL_law_695 : decode cL_law 695 = .ok (.iaload, 1) := by decide +kernel
theorem dL_law_696 : decode cL_law 696 = .ok (.invokevirtual 102, 3) := by decide +kernel
theorem dL_law_699 : decode cL_law 699 = .ok (.aload_n 2, 1) := by decide +kernel
theorem dL_law_700 : decode cL_law 700 = .ok (.aload_n 0, 1) := by decide +kernel
theorem dL_law_701 : decode cL_law 701 = .ok (.iload_n 3, 1) := by decide +kernel
theorem dL_law_702 : decode cL_law 702 = .ok (.iconst 1, 1) := by decide +kernel
theorem dL_law_703 : decode cL_law 703 = .ok (.iadd, 1) := by decide +kernel
theorem dL_law_704 : decode cL_law 704 = .ok (.iaload, 1) := by decide +kernel
theorem dL_law_705 : decode cL_law 705 = .ok (.aload_n 0, 1) := by decide +kernel
theorem dL_law_706 : decode cL_law 706 = .ok (.iload_n 3, 1) := by decide +kernel
theorem dL_law_707 : decode cL_law 707 = .ok (.iconst 2, 1) := by decide +kernel
theorem dL_law_708 : decode cL_law 708 = .ok (.iadd, 1) := by decide +kernel
theorem dL_law_709 : decode cL_law 709 = .ok (.iaload, 1) := by decide +kernel
theorem dL_law_710 : decode cL_law 710 = .ok (.invokevirtual 105, 3) := by decide +kernel
theorem dL_law_713 : decode cL_law 713 = .ok (.if_icmp .eq 352, 3) := by decide +kernel
theorem dL_law_716 : decode cL_law 716 = .ok (.iconst 0, 1) := by decide +kernel
theorem dL_law_717 : decode cL_law 717 = .ok (.ireturn, 1) := by decide +kernel
theorem dL_law_718 : decode cL_law 718 = .ok (.aload_n 1, 1) := by decide +kernel
theorem dL_law_719 : decode cL_law 719 = .ok (.invokevirtual 106, 3) := by decide +kernel
theorem dL_law_722 : decode cL_law 722 = .ok (.aload_n 2, 1) := by decide +kernel
theorem dL_law_723 : decode cL_law 723 = .ok (.invokevirtual 109, 3) := by decide +kernel
theorem dL_law_726 : decode cL_law 726 = .ok (.if_icmp .eq 339, 3) := by decide +kernel
theorem dL_law_729 : decode cL_law 729 = .ok (.iconst 0, 1) := by decide +kernel
theorem dL_law_730 : decode cL_law 730 = .ok (.ireturn, 1) := by decide +kernel
theorem dL_law_731 : decode cL_law 731 = .ok (.aload_n 1, 1) := by decide +kernel
theorem dL_law_732 : decode cL_law 732 = .ok (.aload_n 0, 1) := by decide +kernel
theorem dL_law_733 : decode cL_law 733 = .ok (.iload_n 3, 1) := by decide +kernel
theorem dL_law_734 : decode cL_law 734 = .ok (.iconst 1, 1) := by decide +kernel
theorem dL_law_735 : decode cL_law 735 = .ok (.iadd, 1) := by decide +kernel
theorem dL_law_736 : decode cL_law 736 = .ok (.iaload, 1) := by decide +kernel
theorem dL_law_737 : decode cL_law 737 = .ok (.invokevirtual 110, 3) := by decide +kernel
theorem dL_law_740 : decode cL_law 740 = .ok (.aload_n 2, 1) := by decide +kernel
theorem dL_law_741 : decode cL_law 741 = .ok (.aload_n 0, 1) := by decide +kernel
theorem dL_law_742 : decode cL_law 742 = .ok (.iload_n 3, 1) := by decide +kernel
theorem dL_law_743 : decode cL_law 743 = .ok (.iconst 1, 1) := by decide +kernel
theorem dL_law_744 : decode cL_law 744 = .ok (.iadd, 1) := by decide +kernel
theorem dL_law_745 : decode cL_law 745 = .ok (.iaload, 1) := by decide +kernel
theorem dL_law_746 : decode cL_law 746 = .ok (.invokevirtual 113, 3) := by decide +kernel
theorem dL_law_749 : decode cL_law 749 = .ok (.if_icmp .eq 316, 3) := by decide +kernel
theorem dL_law_752 : decode cL_law 752 = .ok (.iconst 0, 1) := by decide +kernel
theorem dL_law_753 : decode cL_law 753 = .ok (.ireturn, 1) := by decide +kernel
theorem dL_law_754 : decode cL_law 754 = .ok (.aload_n 1, 1) := by decide +kernel
theorem dL_law_755 : decode cL_law 755 = .ok (.invokevirtual 114, 3) := by decide +kernel
theorem dL_law_758 : decode cL_law 758 = .ok (.aload_n 2, 1) := by decide +kernel
theorem dL_law_759 : decode cL_law 759 = .ok (.invokevirtual 117, 3) := by decide +kernel
theorem dL_law_762 : decode cL_law 762 = .ok (.if_icmp .eq 303, 3) := by decide +kernel
theorem dL_law_765 : decode cL_law 765 = .ok (.iconst 0, 1) := by decide +kernel
theorem dL_law_766 : decode cL_law 766 = .ok (.ireturn, 1) := by decide +kernel
theorem dL_law_767 : decode cL_law 767 = .ok (.aload_n 1, 1) := by decide +kernel
theorem dL_law_768 : decode cL_law 768 = .ok (.aload_n 0, 1) := by decide +kernel
theorem dL_law_769 : decode cL_law 769 = .ok (.iload_n 3, 1) := by decide +kernel
theorem dL_law_770 : decode cL_law 770 = .ok (.iconst 1, 1) := by decide +kernel
theorem dL_law_771 : decode cL_law 771 = .ok (.iadd, 1) := by decide +kernel
theorem dL_law_772 : decode cL_law 772 = .ok (.iaload, 1) := by decide +kernel
theorem dL_law_773 : decode cL_law 773 = .ok (.aload_n 0, 1) := by decide +kernel
theorem dL_law_774 : decode cL_law 774 = .ok (.iload_n 3, 1) := by decide +kernel
theorem dL_law_775 : decode cL_law 775 = .ok (.iconst 2, 1) := by decide +kernel
theorem dL_law_776 : decode cL_law 776 = .ok (.iadd, 1) := by decide +kernel
theorem dL_law_777 : decode cL_law 777 = .ok (.iaload, 1) := by decide +kernel
theorem dL_law_778 : decode cL_law 778 = .ok (.aload_n 0, 1) := by decide +kernel
theorem dL_law_779 : decode cL_law 779 = .ok (.iload_n 3, 1) := by decide +kernel
theorem dL_law_780 : decode cL_law 780 = .ok (.iconst 3, 1) := by decide +kernel
theorem dL_law_781 : decode cL_law 781 = .ok (.iadd, 1) := by decide +kernel
theorem dL_law_782 : decode cL_law 782 = .ok (.iaload, 1) := by decide +kernel
theorem dL_law_783 : decode cL_law 783 = .ok (.aload_n 0, 1) := by decide +kernel
theorem dL_law_784 : decode cL_law 784 = .ok (.iload_n 3, 1) := by decide +kernel
theorem dL_law_785 : decode cL_law 785 = .ok (.iconst 4, 1) := by decide +kernel
theorem dL_law_786 : decode cL_law 786 = .ok (.iadd, 1) := by decide +kernel
theorem dL_law_787 : decode cL_law 787 = .ok (.iaload, 1) := by decide +kernel
theorem dL_law_788 : decode cL_law 788 = .ok (.invokevirtual 118, 3) := by decide +kernel
theorem dL_law_791 : decode cL_law 791 = .ok (.aload_n 2, 1) := by decide +kernel
theorem dL_law_792 : decode cL_law 792 = .ok (.aload_n 0, 1) := by decide +kernel
theorem dL_law_793 : decode cL_law 793 = .ok (.iload_n 3, 1) := by decide +kernel
theorem dL_law_794 : decode cL_law 794 = .ok (.iconst 1, 1) := by decide +kernel
theorem dL_law_795 : decode cL_law 795 = .ok (.iadd, 1) := by decide +kernel
theorem dL_law_796 : decode cL_law 796 = .ok (.iaload, 1) := by decide +kernel
theorem dL_law_797 : decode cL_law 797 = .ok (.aload_n 0, 1) := by decide +kernel
theorem dL_law_798 : decode cL_law 798 = .ok (.iload_n 3, 1) := by decide +kernel
theorem dL_law_799 : decode cL_law 799 = .ok (.iconst 2, 1) := by decide +kernel
theorem dL_law_800 : decode cL_law 800 = .ok (.iadd, 1) := by decide +kernel
theorem dL_law_801 : decode cL_law 801 = .ok (.iaload, 1) := by decide +kernel
theorem dL_law_802 : decode cL_law 802 = .ok (.aload_n 0, 1) := by decide +kernel
theorem dL_law_803 : decode cL_law 803 = .ok (.iload_n 3, 1) := by decide +kernel
theorem dL_law_804 : decode cL_law 804 = .ok (.iconst 3, 1) := by decide +kernel
theorem dL_law_805 : decode cL_law 805 = .ok (.iadd, 1) := by decide +kernel
theorem dL_law_806 : decode cL_law 806 = .ok (.iaload, 1) := by decide +kernel
theorem dL_law_807 : decode cL_law 807 = .ok (.aload_n 0, 1) := by decide +kernel
theorem dL_law_808 : decode cL_law 808 = .ok (.iload_n 3, 1) := by decide +kernel
theorem dL_law_809 : decode cL_law 809 = .ok (.iconst 4, 1) := by decide +kernel
theorem dL_law_810 : decode cL_law 810 = .ok (.iadd, 1) := by decide +kernel
theorem dL_law_811 : decode cL_law 811 = .ok (.iaload, 1) := by decide +kernel
theorem dL_law_812 : decode cL_law 812 = .ok (.invokevirtual 122, 3) := by decide +kernel
theorem dL_law_815 : decode cL_law 815 = .ok (.if_icmp .eq 250, 3) := by decide +kernel
theorem dL_law_818 : decode cL_law 818 = .ok (.iconst 0, 1) := by decide +kernel
theorem dL_law_819 : decode cL_law 819 = .ok (.ireturn, 1) := by decide +kernel
theorem dL_law_820 : decode cL_law 820 = .ok (.aload_n 1, 1) := by decide +kernel
theorem dL_law_821 : decode cL_law 821 = .ok (.aload_n 0, 1) := by decide +kernel
theorem dL_law_822 : decode cL_law 822 = .ok (.iload_n 3, 1) := by decide +kernel
theorem dL_law_823 : decode cL_law 823 = .ok (.iconst 1, 1) := by decide +kernel
theorem dL_law_824 : decode cL_law 824 = .ok (.iadd, 1) := by decide +kernel
theorem dL_law_825 : decode cL_law 825 = .ok (.iaload, 1) := by decide +kernel
theorem dL_law_826 : decode cL_law 826 = .ok (.aload_n 0, 1) := by decide +kernel
theorem dL_law_827 : decode cL_law 827 = .ok (.iload_n 3, 1) := by decide +kernel
theorem dL_law_828 : decode cL_law 828 = .ok (.iconst 2, 1) := by decide +kernel
theorem dL_law_829 : decode cL_law 829 = .ok (.iadd, 1) := by decide +kernel
theorem dL_law_830 : decode cL_law 830 = .ok (.iaload, 1) := by decide +kernel
theorem dL_law_831 : decode cL_law 831 = .ok (.aload_n 0, 1) := by decide +kernel
theorem dL_law_832 : decode cL_law 832 = .ok (.iload_n 3, 1) := by decide +kernel
theorem dL_law_833 : decode cL_law 833 = .ok (.iconst 3, 1) := by decide +kernel
theorem dL_law_834 : decode cL_law 834 = .ok (.iadd, 1) := by decide +kernel
theorem dL_law_835 : decode cL_law 835 = .ok (.iaload, 1) := by decide +kernel
theorem dL_law_836 : decode cL_law 836 = .ok (.aload_n 0, 1) := by decide +kernel
theorem dL_law_837 : decode cL_law 837 = .ok (.iload_n 3, 1) := by decide +kernel
theorem dL_law_838 : decode cL_law 838 = .ok (.iconst 4, 1) := by decide +kernel
theorem dL_law_839 : decode cL_law 839 = .ok (.iadd, 1) := by decide +kernel
theorem dL_law_840 : decode cL_law 840 = .ok (.iaload, 1) := by decide +kernel
theorem dL_law_841 : decode cL_law 841 = .ok (.invokevirtual 123, 3) := by decide +kernel
theorem dL_law_844 : decode cL_law 844 = .ok (.aload_n 2, 1) := by decide +kernel
theorem dL_law_845 : decode cL_law 845 = .ok (.aload_n 0, 1) := by decide +kernel
theorem dL_law_846 : decode cL_law 846 = .ok (.iload_n 3, 1) := by decide +kernel
theorem dL_law_847 : decode cL_law 847 = .ok (.iconst 1, 1) := by decide +kernel
theorem dL_law_848 : decode cL_law 848 = .ok (.iadd, 1) := by decide +kernel
theorem dL_law_849 : decode cL_law 849 = .ok (.iaload, 1) := by decide +kernel
theorem dL_law_850 : decode cL_law 850 = .ok (.aload_n 0, 1) := by decide +kernel
theorem dL_law_851 : decode cL_law 851 = .ok (.iload_n 3, 1) := by decide +kernel
theorem dL_law_852 : decode cL_law 852 = .ok (.iconst 2, 1) := by decide +kernel
theorem dL_law_853 : decode cL_law 853 = .ok (.iadd, 1) := by decide +kernel
theorem dL_law_854 : decode cL_law 854 = .ok (.iaload, 1) := by decide +kernel
theorem dL_law_855 : decode cL_law 855 = .ok (.aload_n 0, 1) := by decide +kernel
theorem dL_law_856 : decode cL_law 856 = .ok (.iload_n 3, 1) := by decide +kernel
theorem dL_law_857 : decode cL_law 857 = .ok (.iconst 3, 1) := by decide +kernel
theorem dL_law_858 : decode cL_law 858 = .ok (.iadd, 1) := by decide +kernel
theorem dL_law_859 : decode cL_law 859 = .ok (.iaload, 1) := by decide +kernel
theorem dL_law_860 : decode cL_law 860 = .ok (.aload_n 0, 1) := by decide +kernel
theorem dL_law_861 : decode cL_law 861 = .ok (.iload_n 3, 1) := by decide +kernel
theorem dL_law_862 : decode cL_law 862 = .ok (.iconst 4, 1) := by decide +kernel
theorem dL_law_863 : decode cL_law 863 = .ok (.iadd, 1) := by decide +kernel
theorem dL_law_864 : decode cL_law 864 = .ok (.iaload, 1) := by decide +kernel
theorem dL_law_865 : decode cL_law 865 = .ok (.invokevirtual 126, 3) := by decide +kernel
theorem dL_law_868 : decode cL_law 868 = .ok (.if_icmp .eq 197, 3) := by decide +kernel
theorem dL_law_871 : decode cL_law 871 = .ok (.iconst 0, 1) := by decide +kernel
theorem dL_law_872 : decode cL_law 872 = .ok (.ireturn, 1) := by decide +kernel
theorem dL_law_873 : decode cL_law 873 = .ok (.aload_n 1, 1) := by decide +kernel
theorem dL_law_874 : decode cL_law 874 = .ok (.aload_n 0, 1) := by decide +kernel
theorem dL_law_875 : decode cL_law 875 = .ok (.iload_n 3, 1) := by decide +kernel
theorem dL_law_876 : decode cL_law 876 = .ok (.iconst 1, 1) := by decide +kernel
theorem dL_law_877 : decode cL_law 877 = .ok (.iadd, 1) := by decide +kernel
theorem dL_law_878 : decode cL_law 878 = .ok (.iaload, 1) := by decide +kernel
theorem dL_law_879 : decode cL_law 879 = .ok (.aload_n 0, 1) := by decide +kernel
theorem dL_law_880 : decode cL_law 880 = .ok (.iload_n 3, 1) := by decide +kernel
theorem dL_law_881 : decode cL_law 881 = .ok (.iconst 2, 1) := by decide +kernel
theorem dL_law_882 : decode cL_law 882 = .ok (.iadd, 1) := by decide +kernel
theorem dL_law_883 : decode cL_law 883 = .ok (.iaload, 1) := by decide +kernel
theorem dL_law_884 : decode cL_law 884 = .ok (.aload_n 0, 1) := by decide +kernel
theorem dL_law_885 : decode cL_law 885 = .ok (.iload_n 3, 1) := by decide +kernel
theorem dL_law_886 : decode cL_law 886 = .ok (.iconst 3, 1) := by decide +kernel
theorem dL_law_887 : decode cL_law 887 = .ok (.iadd, 1) := by decide +kernel
theorem dL_law_888 : decode cL_law 888 = .ok (.iaload, 1) := by decide +kernel
theorem dL_law_889 : decode cL_law 889 = .ok (.aload_n 0, 1) := by decide +kernel
theorem dL_law_890 : decode cL_law 890 = .ok (.iload_n 3, 1) := by decide +kernel
theorem dL_law_891 : decode cL_law 891 = .ok (.iconst 4, 1) := by decide +kernel
theorem dL_law_892 : decode cL_law 892 = .ok (.iadd, 1) := by decide +kernel
theorem dL_law_893 : decode cL_law 893 = .ok (.iaload, 1) := by decide +kernel
theorem dL_law_894 : decode cL_law 894 = .ok (.ifCond .eq 7, 3) := by decide +kernel
theorem dL_law_897 : decode cL_law 897 = .ok (.iconst 1, 1) := by decide +kernel
theorem dL_law_898 : decode cL_law 898 = .ok (.goto 4, 3) := by decide +kernel
theorem dL_law_901 : decode cL_law 901 = .ok (.iconst 0, 1) := by decide +kernel
theorem dL_law_902 : decode cL_law 902 = .ok (.invokevirtual 127, 3) := by decide +kernel
theorem dL_law_905 : decode cL_law 905 = .ok (.aload_n 2, 1) := by decide +kernel
theorem dL_law_906 : decode cL_law 906 = .ok (.aload_n 0, 1) := by decide +kernel
theorem dL_law_907 : decode cL_law 907 = .ok (.iload_n 3, 1) := by decide +kernel
theorem dL_law_908 : decode cL_law 908 = .ok (.iconst 1, 1) := by decide +kernel
theorem dL_law_909 : decode cL_law 909 = .ok (.iadd, 1) := by decide +kernel
theorem dL_law_910 : decode cL_law 910 = .ok (.iaload, 1) := by decide +kernel
theorem dL_law_911 : decode cL_law 911 = .ok (.aload_n 0, 1) := by decide +kernel
theorem dL_law_912 : decode cL_law 912 = .ok (.iload_n 3, 1) := by decide +kernel
theorem dL_law_913 : decode cL_law 913 = .ok (.iconst 2, 1) := by decide +kernel
theorem dL_law_914 : decode cL_law 914 = .ok (.iadd, 1) := by decide +kernel
theorem dL_law_915 : decode cL_law 915 = .ok (.iaload, 1) := by decide +kernel
theorem dL_law_916 : decode cL_law 916 = .ok (.aload_n 0, 1) := by decide +kernel
theorem dL_law_917 : decode cL_law 917 = .ok (.iload_n 3, 1) := by decide +kernel
theorem dL_law_918 : decode cL_law 918 = .ok (.iconst 3, 1) := by decide +kernel
theorem dL_law_919 : decode cL_law 919 = .ok (.iadd, 1) := by decide +kernel
theorem dL_law_920 : decode cL_law 920 = .ok (.iaload, 1) := by decide +kernel
theorem dL_law_921 : decode cL_law 921 = .ok (.aload_n 0, 1) := by decide +kernel
theorem dL_law_922 : decode cL_law 922 = .ok (.iload_n 3, 1) := by decide +kernel
theorem dL_law_923 : decode cL_law 923 = .ok (.iconst 4, 1) := by decide +kernel
theorem dL_law_924 : decode cL_law 924 = .ok (.iadd, 1) := by decide +kernel
theorem dL_law_925 : decode cL_law 925 = .ok (.iaload, 1) := by decide +kernel
theorem dL_law_926 : decode cL_law 926 = .ok (.ifCond .eq 7, 3) := by decide +kernel
theorem dL_law_929 : decode cL_law 929 = .ok (.iconst 1, 1) := by decide +kernel
theorem dL_law_930 : decode cL_law 930 = .ok (.goto 4, 3) := by decide +kernel
theorem dL_law_933 : decode cL_law 933 = .ok (.iconst 0, 1) := by decide +kernel
theorem dL_law_934 : decode cL_law 934 = .ok (.invokevirtual 131, 3) := by decide +kernel
theorem dL_law_937 : decode cL_law 937 = .ok (.if_icmp .eq 128, 3) := by decide +kernel
theorem dL_law_940 : decode cL_law 940 = .ok (.iconst 0, 1) := by decide +kernel
theorem dL_law_941 : decode cL_law 941 = .ok (.ireturn, 1) := by decide +kernel
theorem dL_law_942 : decode cL_law 942 = .ok (.aload_n 1, 1) := by decide +kernel
theorem dL_law_943 : decode cL_law 943 = .ok (.aload_n 0, 1) := by decide +kernel
theorem dL_law_944 : decode cL_law 944 = .ok (.iload_n 3, 1) := by decide +kernel
theorem dL_law_945 : decode cL_law 945 = .ok (.iconst 1, 1) := by decide +kernel
theorem dL_law_946 : decode cL_law 946 = .ok (.iadd, 1) := by decide +kernel
theorem dL_law_947 : decode cL_law 947 = .ok (.iaload, 1) := by decide +kernel
theorem dL_law_948 : decode cL_law 948 = .ok (.i2l, 1) := by decide +kernel
theorem dL_law_949 : decode cL_law 949 = .ok (.bipush 32, 2) := by decide +kernel
theorem dL_law_951 : decode cL_law 951 = .ok (.lshl, 1) := by decide +kernel
theorem dL_law_952 : decode cL_law 952 = .ok (.aload_n 0, 1) := by decide +kernel
theorem dL_law_953 : decode cL_law 953 = .ok (.iload_n 3, 1) := by decide +kernel
theorem dL_law_954 : decode cL_law 954 = .ok (.iconst 2, 1) := by decide +kernel
theorem dL_law_955 : decode cL_law 955 = .ok (.iadd, 1) := by decide +kernel
theorem dL_law_956 : decode cL_law 956 = .ok (.iaload, 1) := by decide +kernel
theorem dL_law_957 : decode cL_law 957 = .ok (.i2l, 1) := by decide +kernel
theorem dL_law_958 : decode cL_law 958 = .ok (.ldc2_w 132, 3) := by decide +kernel
theorem dL_law_961 : decode cL_law 961 = .ok (.land, 1) := by decide +kernel
theorem dL_law_962 : decode cL_law 962 = .ok (.lor, 1) := by decide +kernel
theorem dL_law_963 : decode cL_law 963 = .ok (.invokevirtual 134, 3) := by decide +kernel
theorem dL_law_966 : decode cL_law 966 = .ok (.aload_n 2, 1) := by decide +kernel
theorem dL_law_967 : decode cL_law 967 = .ok (.aload_n 0, 1) := by decide +kernel
theorem dL_law_968 : decode cL_law 968 = .ok (.iload_n 3, 1) := by decide +kernel
theorem dL_law_969 : decode cL_law 969 = .ok (.iconst 1, 1) := by decide +kernel
theorem dL_law_970 : decode cL_law 970 = .ok (.iadd, 1) := by decide +kernel
theorem dL_law_971 : decode cL_law 971 = .ok (.iaload, 1) := by decide +kernel
theorem dL_law_972 : decode cL_law 972 = .ok (.i2l, 1) := by decide +kernel
theorem dL_law_973 : decode cL_law 973 = .ok (.bipush 32, 2) := by decide +kernel
theorem dL_law_975 : decode cL_law 975 = .ok (.lshl, 1) := by decide +kernel
theorem dL_law_976 : decode cL_law 976 = .ok (.aload_n 0, 1) := by decide +kernel
theorem dL_law_977 : decode cL_law 977 = .ok (.iload_n 3, 1) := by decide +kernel
theorem dL_law_978 : decode cL_law 978 = .ok (.iconst 2, 1) := by decide +kernel
theorem dL_law_979 : decode cL_law 979 = .ok (.iadd, 1) := by decide +kernel
theorem dL_law_980 : decode cL_law 980 = .ok (.iaload, 1) := by decide +kernel
theorem dL_law_981 : decode cL_law 981 = .ok (.i2l, 1) := by decide +kernel
theorem dL_law_982 : decode cL_law 982 = .ok (.ldc2_w 132, 3) := by decide +kernel
theorem dL_law_985 : decode cL_law 985 = .ok (.land, 1) := by decide +kernel
theorem dL_law_986 : decode cL_law 986 = .ok (.lor, 1) := by decide +kernel
theorem dL_law_987 : decode cL_law 987 = .ok (.invokevirtual 138, 3) := by decide +kernel
theorem dL_law_990 : decode cL_law 990 = .ok (.lcmp, 1) := by decide +kernel
theorem dL_law_991 : decode cL_law 991 = .ok (.ifCond .eq 74, 3) := by decide +kernel
theorem dL_law_994 : decode cL_law 994 = .ok (.iconst 0, 1) := by decide +kernel
theorem dL_law_995 : decode cL_law 995 = .ok (.ireturn, 1) := by decide +kernel
theorem dL_law_996 : decode cL_law 996 = .ok (.aload_n 1, 1) := by decide +kernel
theorem dL_law_997 : decode cL_law 997 = .ok (.aload_n 0, 1) := by decide +kernel
theorem dL_law_998 : decode cL_law 998 = .ok (.iload_n 3, 1) := by decide +kernel
theorem dL_law_999 : decode cL_law 999 = .ok (.iconst 1, 1) := by decide +kernel
theorem dL_law_1000 : decode cL_law 1000 = .ok (.iadd, 1) := by decide +kernel
theorem dL_law_1001 : decode cL_law 1001 = .ok (.iaload, 1) := by decide +kernel
theorem dL_law_1002 : decode cL_law 1002 = .ok (.invokevirtual 139, 3) := by decide +kernel
theorem dL_law_1005 : decode cL_law 1005 = .ok (.aload_n 2, 1) := by decide +kernel
theorem dL_law_1006 : decode cL_law 1006 = .ok (.aload_n 0, 1) := by decide +kernel
theorem dL_law_1007 : decode cL_law 1007 = .ok (.iload_n 3, 1) := by decide +kernel
theorem dL_law_1008 : decode cL_law 1008 = .ok (.iconst 1, 1) := by decide +kernel
theorem dL_law_1009 : decode cL_law 1009 = .ok (.iadd, 1) := by decide +kernel
theorem dL_law_1010 : decode cL_law 1010 = .ok (.iaload, 1) := by decide +kernel
theorem dL_law_1011 : decode cL_law 1011 = .ok (.invokevirtual 142, 3) := by decide +kernel
theorem dL_law_1014 : decode cL_law 1014 = .ok (.if_icmp .eq 51, 3) := by decide +kernel
theorem dL_law_1017 : decode cL_law 1017 = .ok (.iconst 0, 1) := by decide +kernel
theorem dL_law_1018 : decode cL_law 1018 = .ok (.ireturn, 1) := by decide +kernel
theorem dL_law_1019 : decode cL_law 1019 = .ok (.aload_n 1, 1) := by decide +kernel
theorem dL_law_1020 : decode cL_law 1020 = .ok (.aload_n 0, 1) := by decide +kernel
theorem dL_law_1021 : decode cL_law 1021 = .ok (.iload_n 3, 1) := by decide +kernel
theorem dL_law_1022 : decode cL_law 1022 = .ok (.iconst 1, 1) := by decide +kernel
theorem dL_law_1023 : decode cL_law 1023 = .ok (.iadd, 1) := by decide +kernel
theorem dL_law_1024 : decode cL_law 1024 = .ok (.iaload, 1) := by decide +kernel
theorem dL_law_1025 : decode cL_law 1025 = .ok (.invokevirtual 143, 3) := by decide +kernel
theorem dL_law_1028 : decode cL_law 1028 = .ok (.aload_n 2, 1) := by decide +kernel
theorem dL_law_1029 : decode cL_law 1029 = .ok (.aload_n 0, 1) := by decide +kernel
theorem dL_law_1030 : decode cL_law 1030 = .ok (.iload_n 3, 1) := by decide +kernel
theorem dL_law_1031 : decode cL_law 1031 = .ok (.iconst 1, 1) := by decide +kernel
theorem dL_law_1032 : decode cL_law 1032 = .ok (.iadd, 1) := by decide +kernel
theorem dL_law_1033 : decode cL_law 1033 = .ok (.iaload, 1) := by decide +kernel
theorem dL_law_1034 : decode cL_law 1034 = .ok (.invokevirtual 146, 3) := by decide +kernel
theorem dL_law_1037 : decode cL_law 1037 = .ok (.if_icmp .eq 28, 3) := by decide +kernel
theorem dL_law_1040 : decode cL_law 1040 = .ok (.iconst 0, 1) := by decide +kernel
theorem dL_law_1041 : decode cL_law 1041 = .ok (.ireturn, 1) := by decide +kernel
theorem dL_law_1042 : decode cL_law 1042 = .ok (.aload_n 1, 1) := by decide +kernel
theorem dL_law_1043 : decode cL_law 1043 = .ok (.aload_n 0, 1) := by decide +kernel
theorem dL_law_1044 : decode cL_law 1044 = .ok (.iload_n 3, 1) := by decide +kernel
theorem dL_law_1045 : decode cL_law 1045 = .ok (.iconst 1, 1) := by decide +kernel
theorem dL_law_1046 : decode cL_law 1046 = .ok (.iadd, 1) := by decide +kernel
theorem dL_law_1047 : decode cL_law 1047 = .ok (.iaload, 1) := by decide +kernel
theorem dL_law_1048 : decode cL_law 1048 = .ok (.invokevirtual 147, 3) := by decide +kernel
theorem dL_law_1051 : decode cL_law 1051 = .ok (.aload_n 2, 1) := by decide +kernel
theorem dL_law_1052 : decode cL_law 1052 = .ok (.aload_n 0, 1) := by decide +kernel
theorem dL_law_1053 : decode cL_law 1053 = .ok (.iload_n 3, 1) := by decide +kernel
theorem dL_law_1054 : decode cL_law 1054 = .ok (.iconst 1, 1) := by decide +kernel
theorem dL_law_1055 : decode cL_law 1055 = .ok (.iadd, 1) := by decide +kernel
theorem dL_law_1056 : decode cL_law 1056 = .ok (.iaload, 1) := by decide +kernel
theorem dL_law_1057 : decode cL_law 1057 = .ok (.invokevirtual 150, 3) := by decide +kernel
theorem dL_law_1060 : decode cL_law 1060 = .ok (.if_icmp .eq 5, 3) := by decide +kernel
theorem dL_law_1063 : decode cL_law 1063 = .ok (.iconst 0, 1) := by decide +kernel
theorem dL_law_1064 : decode cL_law 1064 = .ok (.ireturn, 1) := by decide +kernel
theorem dL_law_1065 : decode cL_law 1065 = .ok (.iinc 3 5, 3) := by decide +kernel
theorem dL_law_1068 : decode cL_law 1068 = .ok (.goto (-1050), 3) := by decide +kernel
theorem dL_law_1071 : decode cL_law 1071 = .ok (.iconst 1, 1) := by decide +kernel
theorem dL_law_1072 : decode cL_law 1072 = .ok (.ireturn, 1) := by decide +kernel
