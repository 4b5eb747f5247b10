theorem dX11_isTool_27 : decode cX11_isTool 27 = .ok (.iconst 0, 1) := by decide +kernel
theorem dX11_isTool_28 : decode cX11_isTool 28 = .ok (.ireturn, 1) := by decide +kernel
theorem dX11_isWay_0 : decode cX11_isWay 0 = .ok (.iload_n 0, 1) := by decide +kernel
theorem dX11_isWay_1 : decode cX11_isWay 1 = .ok (.iconst 0, 1) := by decide +kernel
theorem dX11_isWay_2 : decode cX11_isWay 2 = .ok (.iconst 3, 1) := by decide +kernel
theorem dX11_isWay_3 : decode cX11_isWay 3 = .ok (.invokestatic 78, 3) := by decide +kernel
theorem dX11_isWay_6 : decode cX11_isWay 6 = .ok (.ireturn, 1) := by decide +kernel
theorem dX11_isUse_0 : decode cX11_isUse 0 = .ok (.iload_n 0, 1) := by decide +kernel
theorem dX11_isUse_1 : decode cX11_isUse 1 = .ok (.ifCond .eq 8, 3) := by decide +kernel
theorem dX11_isUse_4 : decode cX11_isUse 4 = .ok (.iload_n 0, 1) := by decide +kernel
theorem dX11_isUse_5 : decode cX11_isUse 5 = .ok (.iconst 1, 1) := by decide +kernel
theorem dX11_isUse_6 : decode cX11_isUse 6 = .ok (.if_icmp .ne 7, 3) := by decide +kernel
theorem dX11_isUse_9 : decode cX11_isUse 9 = .ok (.iconst 1, 1) := by decide +kernel
theorem dX11_isUse_10 : decode cX11_isUse 10 = .ok (.goto 4, 3) := by decide +kernel
theorem dX11_isUse_13 : decode cX11_isUse 13 = .ok (.iconst 0, 1) := by decide +kernel
theorem dX11_isUse_14 : decode cX11_isUse 14 = .ok (.ireturn, 1) := by decide +kernel
theorem dX11_isSheet_0 : decode cX11_isSheet 0 = .ok (.iload_n 0, 1) := by decide +kernel
theorem dX11_isSheet_1 : decode cX11_isSheet 1 = .ok (.iconst 0, 1) := by decide +kernel
theorem dX11_isSheet_2 : decode cX11_isSheet 2 = .ok (.iconst 3, 1) := by decide +kernel
theorem dX11_isSheet_3 : decode cX11_isSheet 3 = .ok (.invokestatic 78, 3) := by decide +kernel
theorem dX11_isSheet_6 : decode cX11_isSheet 6 = .ok (.ireturn, 1) := by decide +kernel
theorem dX11_isMissing_0 : decode cX11_isMissing 0 = .ok (.aload_n 0, 1) := by decide +kernel
theorem dX11_isMissing_1 : decode cX11_isMissing 1 = .ok (.getfield 67, 3) := by decide +kernel
theorem dX11_isMissing_4 : decode cX11_isMissing 4 = .ok (.iload_n 1, 1) := by decide +kernel
theorem dX11_isMissing_5 : decode cX11_isMissing 5 = .ok (.iaload, 1) := by decide +kernel
theorem dX11_isMissing_6 : decode cX11_isMissing 6 = .ok (.ifCond .ne 7, 3) := by decide +kernel
theorem dX11_isMissing_9 : decode cX11_isMissing 9 = .ok (.iconst 1, 1) := by decide +kernel
theorem dX11_isMissing_10 : decode cX11_isMissing 10 = .ok (.goto 4, 3) := by decide +kernel
theorem dX11_isMissing_13 : decode cX11_isMissing 13 = .ok (.iconst 0, 1) := by decide +kernel
theorem dX11_isMissing_14 : decode cX11_isMissing 14 = .ok (.ireturn, 1) := by decide +kernel
theorem dX11_standsOn_0 : decode cX11_standsOn 0 = .ok (.iload_n 3, 1) := by decide +kernel
theorem dX11_standsOn_1 : decode cX11_standsOn 1 = .ok (.ifCond .lt 33, 3) := by decide +kernel
theorem dX11_standsOn_4 : decode cX11_standsOn 4 = .ok (.iload_n 2, 1) := by decide +kernel
theorem dX11_standsOn_5 : decode cX11_standsOn 5 = .ok (.ifCond .lt 29, 3) := by decide +kernel
theorem dX11_standsOn_8 : decode cX11_standsOn 8 = .ok (.iload_n 3, 1) := by decide +kernel
theorem dX11_standsOn_9 : decode cX11_standsOn 9 = .ok (.aload_n 0, 1) := by decide +kernel
theorem dX11_standsOn_10 : decode cX11_standsOn 10 = .ok (.getfield 70, 3) := by decide +kernel
theorem dX11_standsOn_13 : decode cX11_standsOn 13 = .ok (.iload_n 1, 1) := by decide +kernel
theorem dX11_standsOn_14 : decode cX11_standsOn 14 = .ok (.iaload, 1) := by decide +kernel
theorem dX11_standsOn_15 : decode cX11_standsOn 15 = .ok (.if_icmp .gt 19, 3) := by decide +kernel
theorem dX11_standsOn_18 : decode cX11_standsOn 18 = .ok (.iload_n 2, 1) := by decide +kernel
theorem dX11_standsOn_19 : decode cX11_standsOn 19 = .ok (.aload_n 0, 1) := by decide +kernel
theorem dX11_standsOn_20 : decode cX11_standsOn 20 = .ok (.getfield 70, 3) := by decide +kernel
theorem dX11_standsOn_23 : decode cX11_standsOn 23 = .ok (.iload_n 1, 1) := by decide +kernel
theorem dX11_standsOn_24 : decode cX11_standsOn 24 = .ok (.iaload, 1) := by decide +kernel
theorem dX11_standsOn_25 : decode cX11_standsOn 25 = .ok (.iload_n 3, 1) := by decide +kernel
theorem dX11_standsOn_26 : decode cX11_standsOn 26 = .ok (.isub, 1) := by decide +kernel
theorem dX11_standsOn_27 : decode cX11_standsOn 27 = .ok (.if_icmp .gt 7, 3) := by decide +kernel
theorem dX11_standsOn_30 : decode cX11_standsOn 30 = .ok (.iconst 1, 1) := by decide +kernel
theorem dX11_standsOn_31 : decode cX11_standsOn 31 = .ok (.goto 4, 3) := by decide +kernel
theorem dX11_standsOn_34 : decode cX11_standsOn 34 = .ok (.iconst 0, 1) := by decide +kernel
theorem dX11_standsOn_35 : decode cX11_standsOn 35 = .ok (.ireturn, 1) := by decide +kernel
theorem dX11_firstUnlike_0 : decode cX11_firstUnlike 0 = .ok (.aload_n 0, 1) := by decide +kernel
theorem dX11_firstUnlike_1 : decode cX11_firstUnlike 1 = .ok (.getfield 70, 3) := by decide +kernel
theorem dX11_firstUnlike_4 : decode cX11_firstUnlike 4 = .ok (.iload_n 1, 1) := by decide +kernel
theorem dX11_firstUnlike_5 : decode cX11_firstUnlike 5 = .ok (.iaload, 1) := by decide +kernel
theorem dX11_firstUnlike_6 : decode cX11_firstUnlike 6 = .ok (.aload_n 2, 1) := by decide +kernel
theorem dX11_firstUnlike_7 : decode cX11_firstUnlike 7 = .ok (.invokevirtual 93, 3) := by decide +kernel
theorem dX11_firstUnlike_10 : decode cX11_firstUnlike 10 = .ok (.invokestatic 328, 3) := by decide +kernel
theorem dX11_firstUnlike_13 : decode cX11_firstUnlike 13 = .ok (.istore_n 3, 1) := by decide +kernel
theorem dX11_firstUnlike_14 : decode cX11_firstUnlike 14 = .ok (.iconst 0, 1) := by decide +kernel
theorem dX11_firstUnlike_15 : decode cX11_firstUnlike 15 = .ok (.istore 4, 2) := by decide +kernel
theorem dX11_firstUnlike_17 : decode cX11_firstUnlike 17 = .ok (.iload 4, 2) := by decide +kernel
theorem dX11_firstUnlike_19 : decode cX11_firstUnlike 19 = .ok (.iload_n 3, 1) := by decide +kernel
theorem dX11_firstUnlike_20 : decode cX11_firstUnlike 20 = .ok (.if_icmp .ge 51, 3) := by decide +kernel
theorem dX11_firstUnlike_23 : decode cX11_firstUnlike 23 = .ok (.iload 4, 2) := by decide +kernel
theorem dX11_firstUnlike_25 : decode cX11_firstUnlike 25 = .ok (.aload_n 0, 1) := by decide +kernel
theorem dX11_firstUnlike_26 : decode cX11_firstUnlike 26 = .ok (.getfield 70, 3) := by decide +kernel
theorem dX11_firstUnlike_29 : decode cX11_firstUnlike 29 = .ok (.iload_n 1, 1) := by decide +kernel
theorem dX11_firstUnlike_30 : decode cX11_firstUnlike 30 = .ok (.iaload, 1) := by decide +kernel
theorem dX11_firstUnlike_31 : decode cX11_firstUnlike 31 = .ok (.if_icmp .ge 31, 3) := by decide +kernel
theorem dX11_firstUnlike_34 : decode cX11_firstUnlike 34 = .ok (.aload_n 2, 1) := by decide +kernel
theorem dX11_firstUnlike_35 : decode cX11_firstUnlike 35 = .ok (.iload 4, 2) := by decide +kernel
theorem dX11_firstUnlike_37 : decode cX11_firstUnlike 37 = .ok (.invokevirtual 325, 3) := by decide +kernel
theorem dX11_firstUnlike_40 : decode cX11_firstUnlike 40 = .ok (.ifCond .eq 22, 3) := by decide +kernel
theorem dX11_firstUnlike_43 : decode cX11_firstUnlike 43 = .ok (.aload_n 0, 1) := by decide +kernel
theorem dX11_firstUnlike_44 : decode cX11_firstUnlike 44 = .ok (.getfield 75, 3) := by decide +kernel
theorem dX11_firstUnlike_47 : decode cX11_firstUnlike 47 = .ok (.iload_n 1, 1) := by decide +kernel
theorem dX11_firstUnlike_48 : decode cX11_firstUnlike 48 = .ok (.aaload, 1) := by decide +kernel
theorem dX11_firstUnlike_49 : decode cX11_firstUnlike 49 = .ok (.iload 4, 2) := by decide +kernel
theorem dX11_firstUnlike_51 : decode cX11_firstUnlike 51 = .ok (.iaload, 1) := by decide +kernel
theorem dX11_firstUnlike_52 : decode cX11_firstUnlike 52 = .ok (.aload_n 2, 1) := by decide +kernel
theorem dX11_firstUnlike_53 : decode cX11_firstUnlike 53 = .ok (.getfield 101, 3) := by decide +kernel
theorem dX11_firstUnlike_56 : decode cX11_firstUnlike 56 = .ok (.iload 4, 2) := by decide +kernel
theorem dX11_firstUnlike_58 : decode cX11_firstUnlike 58 = .ok (.iaload, 1) := by decide +kernel
theorem dX11_firstUnlike_59 : decode cX11_firstUnlike 59 = .ok (.if_icmp .eq 6, 3) := by decide +kernel
theorem dX11_firstUnlike_62 : decode cX11_firstUnlike 62 = .ok (.iload 4, 2) := by decide +kernel
theorem dX11_firstUnlike_64 : decode cX11_firstUnlike 64 = .ok (.ireturn, 1) := by decide +kernel
theorem dX11_firstUnlike_65 : decode cX11_firstUnlike 65 = .ok (.iinc 4 1, 3) := by decide +kernel
theorem dX11_firstUnlike_68 : decode cX11_firstUnlike 68 = .ok (.goto (-51), 3) := by decide +kernel
theorem dX11_firstUnlike_71 : decode cX11_firstUnlike 71 = .ok (.iconst (-1), 1) := by decide +kernel
theorem dX11_firstUnlike_72 : decode cX11_firstUnlike 72 = .ok (.ireturn, 1) := by decide +kernel
theorem dX11_lawOf_0 : decode cX11_lawOf 0 = .ok (.iload_n 1, 1) := by decide +kernel
theorem dX11_lawOf_1 : decode cX11_lawOf 1 = .ok (.ifCond .ne 13, 3) := by decide +kernel
theorem dX11_lawOf_4 : decode cX11_lawOf 4 = .ok (.aload_n 0, 1) := by decide +kernel
theorem dX11_lawOf_5 : decode cX11_lawOf 5 = .ok (.getfield 14, 3) := by decide +kernel
theorem dX11_lawOf_8 : decode cX11_lawOf 8 = .ok (.getfield 152, 3) := by decide +kernel
theorem dX11_lawOf_11 : decode cX11_lawOf 11 = .ok (.goto 10, 3) := by decide +kernel
theorem dX11_lawOf_14 : decode cX11_lawOf 14 = .ok (.aload_n 0, 1) := by decide +kernel
theorem dX11_lawOf_15 : decode cX11_lawOf 15 = .ok (.getfield 14, 3) := by decide +kernel
theorem dX11_lawOf_18 : decode cX11_lawOf 18 = .ok (.getfield 107, 3) := by decide +kernel
theorem dX11_lawOf_21 : decode cX11_lawOf 21 = .ok (.areturn, 1) := by decide +kernel
theorem dX11_kindAt_0 : decode cX11_kindAt 0 = .ok (.iload_n 1, 1) := by decide +kernel
theorem dX11_kindAt_1 : decode cX11_kindAt 1 = .ok (.iconst 0, 1) := by decide +kernel
theorem dX11_kindAt_2 : decode cX11_kindAt 2 = .ok (.bipush 6, 2) := by decide +kernel
theorem dX11_kindAt_4 : decode cX11_kindAt 4 = .ok (.invokestatic 78, 3) := by decide +kernel
theorem dX11_kindAt_7 : decode cX11_kindAt 7 = .ok (.ifCond .eq 12, 3) := by decide +kernel
theorem dX11_kindAt_10 : decode cX11_kindAt 10 = .ok (.aload_n 0, 1) := by decide +kernel
theorem dX11_kindAt_11 : decode cX11_kindAt 11 = .ok (.getfield 42, 3) := by decide +kernel
theorem dX11_kindAt_14 : decode cX11_kindAt 14 = .ok (.iload_n 1, 1) := by decide +kernel
theorem dX11_kindAt_15 : decode cX11_kindAt 15 = .ok (.aaload, 1) := by decide +kernel
theorem dX11_kindAt_16 : decode cX11_kindAt 16 = .ok (.goto 9, 3) := by decide +kernel
theorem dX11_kindAt_19 : decode cX11_kindAt 19 = .ok (.aload_n 0, 1) := by decide +kernel
theorem dX11_kindAt_20 : decode cX11_kindAt 20 = .ok (.getfield 42, 3) := by decide +kernel
theorem dX11_kindAt_23 : decode cX11_kindAt 23 = .ok (.iconst 0, 1) := by decide +kernel
theorem dX11_kindAt_24 : decode cX11_kindAt 24 = .ok (.aaload, 1) := by decide +kernel
theorem dX11_kindAt_25 : decode cX11_kindAt 25 = .ok (.areturn, 1) := by decide +kernel
theorem dX11_kindOf_0 : decode cX11_kindOf 0 = .ok (.aload_n 0, 1) := by decide +kernel
theorem dX11_kindOf_1 : decode cX11_kindOf 1 = .ok (.aload_n 0, 1) := by decide +kernel
theorem dX11_kindOf_2 : decode cX11_kindOf 2 = .ok (.iload_n 1, 1) := by decide +kernel
theorem dX11_kindOf_3 : decode cX11_kindOf 3 = .ok (.invokevirtual 142, 3) := by decide +kernel
theorem dX11_kindOf_6 : decode cX11_kindOf 6 = .ok (.ifCond .eq 15, 3) := by decide +kernel
theorem dX11_kindOf_9 : decode cX11_kindOf 9 = .ok (.aload_n 0, 1) := by decide +kernel
theorem dX11_kindOf_10 : decode cX11_kindOf 10 = .ok (.getfield 14, 3) := by decide +kernel
theorem dX11_kindOf_13 : decode cX11_kindOf 13 = .ok (.getfield 136, 3) := by decide +kernel
theorem dX11_kindOf_16 : decode cX11_kindOf 16 = .ok (.iload_n 1, 1) := by decide +kernel
theorem dX11_kindOf_17 : decode cX11_kindOf 17 = .ok (.iaload, 1) := by decide +kernel
theorem dX11_kindOf_18 : decode cX11_kindOf 18 = .ok (.goto 4, 3) := by decide +kernel
theorem dX11_kindOf_21 : decode cX11_kindOf 21 = .ok (.iconst 0, 1) := by decide +kernel
theorem dX11_kindOf_22 : decode cX11_kindOf 22 = .ok (.invokevirtual 253, 3) := by decide +kernel
theorem dX11_kindOf_25 : decode cX11_kindOf 25 = .ok (.areturn, 1) := by decide +kernel
theorem dX11_bestFrom_0 : decode cX11_bestFrom 0 = .ok (.aload_n 1, 1) := by decide +kernel
theorem dX11_bestFrom_1 : decode cX11_bestFrom 1 = .ok (.invokevirtual 93, 3) := by decide +kernel
theorem dX11_bestFrom_4 : decode cX11_bestFrom 4 = .ok (.istore 4, 2) := by decide +kernel
theorem dX11_bestFrom_6 : decode cX11_bestFrom 6 = .ok (.ldc 235, 2) := by decide +kernel
theorem dX11_bestFrom_8 : decode cX11_bestFrom 8 = .ok (.istore 5, 2) := by decide +kernel
theorem dX11_bestFrom_10 : decode cX11_bestFrom 10 = .ok (.aload_n 0, 1) := by decide +kernel
theorem dX11_bestFrom_11 : decode cX11_bestFrom 11 = .ok (.getfield 60, 3) := by decide +kernel
theorem dX11_bestFrom_14 : decode cX11_bestFrom 14 = .ok (.aload_n 1, 1) := by decide +kernel
theorem dX11_bestFrom_15 : decode cX11_bestFrom 15 = .ok (.invokevirtual 236, 3) := by decide +kernel
theorem dX11_bestFrom_18 : decode cX11_bestFrom 18 = .ok (.iconst 0, 1) := by decide +kernel
theorem dX11_bestFrom_19 : decode cX11_bestFrom 19 = .ok (.istore 6, 2) := by decide +kernel
theorem dX11_bestFrom_21 : decode cX11_bestFrom 21 = .ok (.iload 6, 2) := by decide +kernel
theorem dX11_bestFrom_23 : decode cX11_bestFrom 23 = .ok (.iload 4, 2) := by decide +kernel
theorem dX11_bestFrom_25 : decode cX11_bestFrom 25 = .ok (.if_icmp .ge 86, 3) := by decide +kernel
theorem dX11_bestFrom_28 : decode cX11_bestFrom 28 = .ok (.iconst 0, 1) := by decide +kernel
theorem dX11_bestFrom_29 : decode cX11_bestFrom 29 = .ok (.istore 7, 2) := by decide +kernel
theorem dX11_bestFrom_31 : decode cX11_bestFrom 31 = .ok (.iload 7, 2) := by decide +kernel
theorem dX11_bestFrom_33 : decode cX11_bestFrom 33 = .ok (.iconst 4, 1) := by decide +kernel
theorem dX11_bestFrom_34 : decode cX11_bestFrom 34 = .ok (.if_icmp .ge 71, 3) := by decide +kernel
theorem dX11_bestFrom_37 : decode cX11_bestFrom 37 = .ok (.aload_n 0, 1) := by decide +kernel
theorem dX11_bestFrom_38 : decode cX11_bestFrom 38 = .ok (.getfield 60, 3) := by decide +kernel
theorem dX11_bestFrom_41 : decode cX11_bestFrom 41 = .ok (.aload_n 1, 1) := by decide +kernel
theorem dX11_bestFrom_42 : decode cX11_bestFrom 42 = .ok (.invokevirtual 331, 3) := by decide +kernel
theorem dX11_bestFrom_45 : decode cX11_bestFrom 45 = .ok (.aload_n 0, 1) := by decide +kernel
theorem dX11_bestFrom_46 : decode cX11_bestFrom 46 = .ok (.getfield 60, 3) := by decide +kernel
theorem dX11_bestFrom_49 : decode cX11_bestFrom 49 = .ok (.aload_n 2, 1) := by decide +kernel
theorem dX11_bestFrom_50 : decode cX11_bestFrom 50 = .ok (.iload_n 3, 1) := by decide +kernel
theorem dX11_bestFrom_51 : decode cX11_bestFrom 51 = .ok (.aload_n 0, 1) := by decide +kernel
theorem dX11_bestFrom_52 : decode cX11_bestFrom 52 = .ok (.getfield 14, 3) := by decide +kernel
theorem dX11_bestFrom_55 : decode cX11_bestFrom 55 = .ok (.getfield 152, 3) := by decide +kernel
theorem dX11_bestFrom_58 : decode cX11_bestFrom 58 = .ok (.iload 6, 2) := by decide +kernel
theorem dX11_bestFrom_60 : decode cX11_bestFrom 60 = .ok (.iload 7, 2) := by decide +kernel
theorem dX11_bestFrom_62 : decode cX11_bestFrom 62 = .ok (.invokevirtual 194, 3) := by decide +kernel
theorem dX11_bestFrom_65 : decode cX11_bestFrom 65 = .ok (.iload 5, 2) := by decide +kernel
theorem dX11_bestFrom_67 : decode cX11_bestFrom 67 = .ok (.aload_n 0, 1) := by decide +kernel
theorem dX11_bestFrom_68 : decode cX11_bestFrom 68 = .ok (.getfield 60, 3) := by decide +kernel
theorem dX11_bestFrom_71 : decode cX11_bestFrom 71 = .ok (.aload_n 0, 1) := by decide +kernel
theorem dX11_bestFrom_72 : decode cX11_bestFrom 72 = .ok (.getfield 14, 3) := by decide +kernel
theorem dX11_bestFrom_75 : decode cX11_bestFrom 75 = .ok (.getfield 107, 3) := by decide +kernel
theorem dX11_bestFrom_78 : decode cX11_bestFrom 78 = .ok (.invokevirtual 210, 3) := by decide +kernel
theorem dX11_bestFrom_81 : decode cX11_bestFrom 81 = .ok (.sipush 1000, 3) := by decide +kernel
theorem dX11_bestFrom_84 : decode cX11_bestFrom 84 = .ok (.imul, 1) := by decide +kernel
theorem dX11_bestFrom_85 : decode cX11_bestFrom 85 = .ok (.bipush 10, 2) := by decide +kernel
theorem dX11_bestFrom_87 : decode cX11_bestFrom 87 = .ok (.iload 6, 2) := by decide +kernel
theorem dX11_bestFrom_89 : decode cX11_bestFrom 89 = .ok (.imul, 1) := by decide +kernel
theorem dX11_bestFrom_90 : decode cX11_bestFrom 90 = .ok (.iadd, 1) := by decide +kernel
theorem dX11_bestFrom_91 : decode cX11_bestFrom 91 = .ok (.iload 7, 2) := by decide +kernel
theorem dX11_bestFrom_93 : decode cX11_bestFrom 93 = .ok (.iadd, 1) := by decide +kernel
theorem dX11_bestFrom_94 : decode cX11_bestFrom 94 = .ok (.invokestatic 158, 3) := by decide +kernel
theorem dX11_bestFrom_97 : decode cX11_bestFrom 97 = .ok (.istore 5, 2) := by decide +kernel
theorem dX11_bestFrom_99 : decode cX11_bestFrom 99 = .ok (.iinc 7 1, 3) := by decide +kernel
theorem dX11_bestFrom_102 : decode cX11_bestFrom 102 = .ok (.goto (-71), 3) := by decide +kernel
theorem dX11_bestFrom_105 : decode cX11_bestFrom 105 = .ok (.iinc 6 1, 3) := by decide +kernel
theorem dX11_bestFrom_108 : decode cX11_bestFrom 108 = .ok (.goto (-87), 3) := by decide +kernel
theorem dX11_bestFrom_111 : decode cX11_bestFrom 111 = .ok (.iload 5, 2) := by decide +kernel
theorem dX11_bestFrom_113 : decode cX11_bestFrom 113 = .ok (.ireturn, 1) := by decide +kernel
theorem dX11_partOfBest_0 : decode cX11_partOfBest 0 = .ok (.iload_n 1, 1) := by decide +kernel
theorem dX11_partOfBest_1 : decode cX11_partOfBest 1 = .ok (.ifCond .ne 11, 3) := by decide +kernel
theorem dX11_partOfBest_4 : decode cX11_partOfBest 4 = .ok (.iload_n 0, 1) := by decide +kernel
theorem dX11_partOfBest_5 : decode cX11_partOfBest 5 = .ok (.sipush 1000, 3) := by decide +kernel
theorem dX11_partOfBest_8 : decode cX11_partOfBest 8 = .ok (.irem, 1) := by decide +kernel
theorem dX11_partOfBest_9 : decode cX11_partOfBest 9 = .ok (.goto 8, 3) := by decide +kernel
theorem dX11_partOfBest_12 : decode cX11_partOfBest 12 = .ok (.iload_n 0, 1) := by decide +kernel
theorem dX11_partOfBest_13 : decode cX11_partOfBest 13 = .ok (.sipush 1000, 3) := by decide +kernel
theorem dX11_partOfBest_16 : decode cX11_partOfBest 16 = .ok (.idiv, 1) := by decide +kernel
theorem dX11_partOfBest_17 : decode cX11_partOfBest 17 = .ok (.ireturn, 1) := by decide +kernel
theorem dX11_nightsToGo_0 : decode cX11_nightsToGo 0 = .ok (.iload_n 0, 1) := by decide +kernel
theorem dX11_nightsToGo_1 : decode cX11_nightsToGo 1 = .ok (.istore_n 2, 1) := by decide +kernel
theorem dX11_nightsToGo_2 : decode cX11_nightsToGo 2 = .ok (.iconst 0, 1) := by decide +kernel
theorem dX11_nightsToGo_3 : decode cX11_nightsToGo 3 = .ok (.istore_n 3, 1) := by decide +kernel
theorem dX11_nightsToGo_4 : decode cX11_nightsToGo 4 = .ok (.iload_n 3, 1) := by decide +kernel
theorem dX11_nightsToGo_5 : decode cX11_nightsToGo 5 = .ok (.bipush 30, 2) := by decide +kernel
theorem dX11_nightsToGo_7 : decode cX11_nightsToGo 7 = .ok (.if_icmp .gt 25, 3) := by decide +kernel
theorem dX11_nightsToGo_10 : decode cX11_nightsToGo 10 = .ok (.iload_n 2, 1) := by decide +kernel
theorem dX11_nightsToGo_11 : decode cX11_nightsToGo 11 = .ok (.ifCond .gt 5, 3) := by decide +kernel
theorem dX11_nightsToGo_14 : decode cX11_nightsToGo 14 = .ok (.iload_n 3, 1) := by decide +kernel
theorem dX11_nightsToGo_15 : decode cX11_nightsToGo 15 = .ok (.ireturn, 1) := by decide +kernel
theorem dX11_nightsToGo_16 : decode cX11_nightsToGo 16 = .ok (.iload_n 2, 1) := by decide +kernel
theorem dX11_nightsToGo_17 : decode cX11_nightsToGo 17 = .ok (.iconst 0, 1) := by decide +kernel
theorem dX11_nightsToGo_18 : decode cX11_nightsToGo 18 = .ok (.iload_n 1, 1) := by decide +kernel
theorem dX11_nightsToGo_19 : decode cX11_nightsToGo 19 = .ok (.iload_n 3, 1) := by decide +kernel
theorem dX11_nightsToGo_20 : decode cX11_nightsToGo 20 = .ok (.isub, 1) := by decide +kernel
theorem dX11_nightsToGo_21 : decode cX11_nightsToGo 21 = .ok (.invokestatic 328, 3) := by decide +kernel
theorem dX11_nightsToGo_24 : decode cX11_nightsToGo 24 = .ok (.isub, 1) := by decide +kernel
theorem dX11_nightsToGo_25 : decode cX11_nightsToGo 25 = .ok (.istore_n 2, 1) := by decide +kernel
theorem dX11_nightsToGo_26 : decode cX11_nightsToGo 26 = .ok (.iinc 3 1, 3) := by decide +kernel
theorem dX11_nightsToGo_29 : decode cX11_nightsToGo 29 = .ok (.goto (-25), 3) := by decide +kernel
theorem dX11_nightsToGo_32 : decode cX11_nightsToGo 32 = .ok (.bipush 31, 2) := by decide +kernel
theorem dX11_nightsToGo_34 : decode cX11_nightsToGo 34 = .ok (.ireturn, 1) := by decide +kernel
theorem dX12_finds_0 : decode cX12_finds 0 = .ok (.aload_n 0, 1) := by decide +kernel
theorem dX12_finds_1 : decode cX12_finds 1 = .ok (.getfield 16, 3) := by decide +kernel
theorem dX12_finds_4 : decode cX12_finds 4 = .ok (.iload_n 1, 1) := by decide +kernel
theorem dX12_finds_5 : decode cX12_finds 5 = .ok (.dup2, 1) := by decide +kernel
theorem dX12_finds_6 : decode cX12_finds 6 = .ok (.iaload, 1) := by decide +kernel
theorem dX12_finds_7 : decode cX12_finds 7 = .ok (.iconst 1, 1) := by decide +kernel
theorem dX12_finds_8 : decode cX12_finds 8 = .ok (.iadd, 1) := by decide +kernel
theorem dX12_finds_9 : decode cX12_finds 9 = .ok (.iastore, 1) := by decide +kernel
theorem dX12_finds_10 : decode cX12_finds 10 = .ok (.ldc 50, 2) := by decide +kernel
theorem dX12_finds_12 : decode cX12_finds 12 = .ok (.iload_n 1, 1) := by decide +kernel
theorem dX12_finds_13 : decode cX12_finds 13 = .ok (.isub, 1) := by decide +kernel
theorem dX12_finds_14 : decode cX12_finds 14 = .ok (.ireturn, 1) := by decide +kernel
theorem dX12_in_0 : decode cX12_in 0 = .ok (.lload_n 0, 1) := by decide +kernel
theorem dX12_in_1 : decode cX12_in 1 = .ok (.lload_n 2, 1) := by decide +kernel
theorem dX12_in_2 : decode cX12_in 2 = .ok (.lcmp, 1) := by decide +kernel
theorem dX12_in_3 : decode cX12_in 3 = .ok (.ifCond .lt 14, 3) := by decide +kernel
theorem dX12_in_6 : decode cX12_in 6 = .ok (.lload_n 0, 1) := by decide +kernel
theorem dX12_in_7 : decode cX12_in 7 = .ok (.lload 4, 2) := by decide +kernel
theorem dX12_in_9 : decode cX12_in 9 = .ok (.lcmp, 1) := by decide +kernel
theorem dX12_in_10 : decode cX12_in 10 = .ok (.ifCond .gt 7, 3) := by decide +kernel
theorem dX12_in_13 : decode cX12_in 13 = .ok (.iconst 1, 1) := by decide +kernel
theorem dX12_in_14 : decode cX12_in 14 = .ok (.goto 4, 3) := by decide +kernel
theorem dX12_in_17 : decode cX12_in 17 = .ok (.iconst 0, 1) := by decide +kernel
theorem dX12_in_18 : decode cX12_in 18 = .ok (.ireturn, 1) := by decide +kernel
theorem dX12_held_0 : decode cX12_held 0 = .ok (.iload_n 0, 1) := by decide +kernel
theorem dX12_held_1 : decode cX12_held 1 = .ok (.iload_n 1, 1) := by decide +kernel
theorem dX12_held_2 : decode cX12_held 2 = .ok (.if_icmp .ge 7, 3) := by decide +kernel
theorem dX12_held_5 : decode cX12_held 5 = .ok (.iload_n 1, 1) := by decide +kernel
theorem dX12_held_6 : decode cX12_held 6 = .ok (.goto 13, 3) := by decide +kernel
theorem dX12_held_9 : decode cX12_held 9 = .ok (.iload_n 0, 1) := by decide +kernel
theorem dX12_held_10 : decode cX12_held 10 = .ok (.iload_n 2, 1) := by decide +kernel
theorem dX12_held_11 : decode cX12_held 11 = .ok (.if_icmp .le 7, 3) := by decide +kernel
theorem dX12_held_14 : decode cX12_held 14 = .ok (.iload_n 2, 1) := by decide +kernel
theorem dX12_held_15 : decode cX12_held 15 = .ok (.goto 4, 3) := by decide +kernel
theorem dX12_held_18 : decode cX12_held 18 = .ok (.iload_n 0, 1) := by decide +kernel
theorem dX12_held_19 : decode cX12_held 19 = .ok (.ireturn, 1) := by decide +kernel
theorem dX12_cells_0 : decode cX12_cells 0 = .ok (.aload_n 0, 1) := by decide +kernel
theorem dX12_cells_1 : decode cX12_cells 1 = .ok (.getfield 7, 3) := by decide +kernel
theorem dX12_cells_4 : decode cX12_cells 4 = .ok (.iconst 0, 1) := by decide +kernel
theorem dX12_cells_5 : decode cX12_cells 5 = .ok (.iaload, 1) := by decide +kernel
theorem dX12_cells_6 : decode cX12_cells 6 = .ok (.aload_n 0, 1) := by decide +kernel
theorem dX12_cells_7 : decode cX12_cells 7 = .ok (.getfield 7, 3) := by decide +kernel
theorem dX12_cells_10 : decode cX12_cells 10 = .ok (.iconst 1, 1) := by decide +kernel
theorem dX12_cells_11 : decode cX12_cells 11 = .ok (.iaload, 1) := by decide +kernel
theorem dX12_cells_12 : decode cX12_cells 12 = .ok (.imul, 1) := by decide +kernel
theorem dX12_cells_13 : decode cX12_cells 13 = .ok (.ireturn, 1) := by decide +kernel
theorem dX12_isCell_0 : decode cX12_isCell 0 = .ok (.iload_n 1, 1) := by decide +kernel
theorem dX12_isCell_1 : decode cX12_isCell 1 = .ok (.i2l, 1) := by decide +kernel
theorem dX12_isCell_2 : decode cX12_isCell 2 = .ok (.lconst 0, 1) := by decide +kernel
theorem dX12_isCell_3 : decode cX12_isCell 3 = .ok (.aload_n 0, 1) := by decide +kernel
theorem dX12_isCell_4 : decode cX12_isCell 4 = .ok (.invokevirtual 51, 3) := by decide +kernel
theorem dX12_isCell_7 : decode cX12_isCell 7 = .ok (.iconst 1, 1) := by decide +kernel
theorem dX12_isCell_8 : decode cX12_isCell 8 = .ok (.isub, 1) := by decide +kernel
theorem dX12_isCell_9 : decode cX12_isCell 9 = .ok (.i2l, 1) := by decide +kernel
theorem dX12_isCell_10 : decode cX12_isCell 10 = .ok (.invokestatic 55, 3) := by decide +kernel
theorem dX12_isCell_13 : decode cX12_isCell 13 = .ok (.ireturn, 1) := by decide +kernel
theorem dX12_isTool_0 : decode cX12_isTool 0 = .ok (.iload_n 1, 1) := by decide +kernel
theorem dX12_isTool_1 : decode cX12_isTool 1 = .ok (.i2l, 1) := by decide +kernel
theorem dX12_isTool_2 : decode cX12_isTool 2 = .ok (.lconst 0, 1) := by decide +kernel
theorem dX12_isTool_3 : decode cX12_isTool 3 = .ok (.aload_n 0, 1) := by decide +kernel
theorem dX12_isTool_4 : decode cX12_isTool 4 = .ok (.getfield 7, 3) := by decide +kernel
theorem dX12_isTool_7 : decode cX12_isTool 7 = .ok (.iconst 2, 1) := by decide +kernel
theorem dX12_isTool_8 : decode cX12_isTool 8 = .ok (.iaload, 1) := by decide +kernel
theorem dX12_isTool_9 : decode cX12_isTool 9 = .ok (.iconst 1, 1) := by decide +kernel
theorem dX12_isTool_10 : decode cX12_isTool 10 = .ok (.isub, 1) := by decide +kernel
theorem dX12_isTool_11 : decode cX12_isTool 11 = .ok (.i2l, 1) := by decide +kernel
theorem dX12_isTool_12 : decode cX12_isTool 12 = .ok (.invokestatic 55, 3) := by decide +kernel
theorem dX12_isTool_15 : decode cX12_isTool 15 = .ok (.ireturn, 1) := by decide +kernel
theorem dX12_isWay_0 : decode cX12_isWay 0 = .ok (.iload_n 0, 1) := by decide +kernel
theorem dX12_isWay_1 : decode cX12_isWay 1 = .ok (.i2l, 1) := by decide +kernel
theorem dX12_isWay_2 : decode cX12_isWay 2 = .ok (.lconst 0, 1) := by decide +kernel
theorem dX12_isWay_3 : decode cX12_isWay 3 = .ok (.ldc2_w 59, 3) := by decide +kernel
theorem dX12_isWay_6 : decode cX12_isWay 6 = .ok (.invokestatic 55, 3) := by decide +kernel
theorem dX12_isWay_9 : decode cX12_isWay 9 = .ok (.ireturn, 1) := by decide +kernel
theorem dX12_kindOf_0 : decode cX12_kindOf 0 = .ok (.aload_n 0, 1) := by decide +kernel
theorem dX12_kindOf_1 : decode cX12_kindOf 1 = .ok (.getfield 7, 3) := by decide +kernel
theorem dX12_kindOf_4 : decode cX12_kindOf 4 = .ok (.bipush 60, 2) := by decide +kernel
theorem dX12_kindOf_6 : decode cX12_kindOf 6 = .ok (.iconst 2, 1) := by decide +kernel
theorem dX12_kindOf_7 : decode cX12_kindOf 7 = .ok (.iload_n 1, 1) := by decide +kernel
theorem dX12_kindOf_8 : decode cX12_kindOf 8 = .ok (.imul, 1) := by decide +kernel
theorem dX12_kindOf_9 : decode cX12_kindOf 9 = .ok (.iadd, 1) := by decide +kernel
theorem dX12_kindOf_10 : decode cX12_kindOf 10 = .ok (.iaload, 1) := by decide +kernel
theorem dX12_kindOf_11 : decode cX12_kindOf 11 = .ok (.ireturn, 1) := by decide +kernel
theorem dX12_numberOf_0 : decode cX12_numberOf 0 = .ok (.aload_n 0, 1) := by decide +kernel
theorem dX12_numberOf_1 : decode cX12_numberOf 1 = .ok (.getfield 7, 3) := by decide +kernel
theorem dX12_numberOf_4 : decode cX12_numberOf 4 = .ok (.bipush 60, 2) := by decide +kernel
theorem dX12_numberOf_6 : decode cX12_numberOf 6 = .ok (.iconst 2, 1) := by decide +kernel
theorem dX12_numberOf_7 : decode cX12_numberOf 7 = .ok (.iload_n 1, 1) := by decide +kernel
theorem dX12_numberOf_8 : decode cX12_numberOf 8 = .ok (.imul, 1) := by decide +kernel
theorem dX12_numberOf_9 : decode cX12_numberOf 9 = .ok (.iadd, 1) := by decide +kernel
theorem dX12_numberOf_10 : decode cX12_numberOf 10 = .ok (.iconst 1, 1) := by decide +kernel
theorem dX12_numberOf_11 : decode cX12_numberOf 11 = .ok (.iadd, 1) := by decide +kernel
theorem dX12_numberOf_12 : decode cX12_numberOf 12 = .ok (.iaload, 1) := by decide +kernel
theorem dX12_numberOf_13 : decode cX12_numberOf 13 = .ok (.ireturn, 1) := by decide +kernel
theorem dX12_keepAside_0 : decode cX12_keepAside 0 = .ok (.iconst 0, 1) := by decide +kernel
theorem dX12_keepAside_1 : decode cX12_keepAside 1 = .ok (.istore_n 2, 1) := by decide +kernel
theorem dX12_keepAside_2 : decode cX12_keepAside 2 = .ok (.iload_n 2, 1) := by decide +kernel
theorem dX12_keepAside_3 : decode cX12_keepAside 3 = .ok (.bipush 60, 2) := by decide +kernel
theorem dX12_keepAside_5 : decode cX12_keepAside 5 = .ok (.if_icmp .ge 26, 3) := by decide +kernel
theorem dX12_keepAside_8 : decode cX12_keepAside 8 = .ok (.aload_n 0, 1) := by decide +kernel
theorem dX12_keepAside_9 : decode cX12_keepAside 9 = .ok (.getfield 19, 3) := by decide +kernel
theorem dX12_keepAside_12 : decode cX12_keepAside 12 = .ok (.bipush 60, 2) := by decide +kernel
theorem dX12_keepAside_14 : decode cX12_keepAside 14 = .ok (.iload_n 1, 1) := by decide +kernel
theorem dX12_keepAside_15 : decode cX12_keepAside 15 = .ok (.imul, 1) := by decide +kernel
theorem dX12_keepAside_16 : decode cX12_keepAside 16 = .ok (.iload_n 2, 1) := by decide +kernel
theorem dX12_keepAside_17 : decode cX12_keepAside 17 = .ok (.iadd, 1) := by decide +kernel
theorem dX12_keepAside_18 : decode cX12_keepAside 18 = .ok (.aload_n 0, 1) := by decide +kernel
theorem dX12_keepAside_19 : decode cX12_keepAside 19 = .ok (.getfield 7, 3) := by decide +kernel
theorem dX12_keepAside_22 : decode cX12_keepAside 22 = .ok (.iload_n 2, 1) := by decide +kernel
theorem dX12_keepAside_23 : decode cX12_keepAside 23 = .ok (.iaload, 1) := by decide +kernel
theorem dX12_keepAside_24 : decode cX12_keepAside 24 = .ok (.iastore, 1) := by decide +kernel
theorem dX12_keepAside_25 : decode cX12_keepAside 25 = .ok (.iinc 2 1, 3) := by decide +kernel
theorem dX12_keepAside_28 : decode cX12_keepAside 28 = .ok (.goto (-26), 3) := by decide +kernel
theorem dX12_keepAside_31 : decode cX12_keepAside 31 = .ok (.return_, 1) := by decide +kernel
theorem dX12_putBack_0 : decode cX12_putBack 0 = .ok (.iconst 0, 1) := by decide +kernel
theorem dX12_putBack_1 : decode cX12_putBack 1 = .ok (.istore_n 2, 1) := by decide +kernel
theorem dX12_putBack_2 : decode cX12_putBack 2 = .ok (.iload_n 2, 1) := by decide +kernel
theorem dX12_putBack_3 : decode cX12_putBack 3 = .ok (.bipush 60, 2) := by decide +kernel
theorem dX12_putBack_5 : decode cX12_putBack 5 = .ok (.if_icmp .ge 26, 3) := by decide +kernel
theorem dX12_putBack_8 : decode cX12_putBack 8 = .ok (.aload_n 0, 1) := by decide +kernel
theorem dX12_putBack_9 : decode cX12_putBack 9 = .ok (.getfield 7, 3) := by decide +kernel
theorem dX12_putBack_12 : decode cX12_putBack 12 = .ok (.iload_n 2, 1) := by decide +kernel
theorem dX12_putBack_13 : decode cX12_putBack 13 = .ok (.aload_n 0, 1) := by decide +kernel
theorem dX12_putBack_14 : decode cX12_putBack 14 = .ok (.getfield 19, 3) := by decide +kernel
theorem dX12_putBack_17 : decode cX12_putBack 17 = .ok (.bipush 60, 2) := by decide +kernel
theorem dX12_putBack_19 : decode cX12_putBack 19 = .ok (.iload_n 1, 1) := by decide +kernel
theorem dX12_putBack_20 : decode cX12_putBack 20 = .ok (.imul, 1) := by decide +kernel
theorem dX12_putBack_21 : decode cX12_putBack 21 = .ok (.iload_n 2, 1) := by decide +kernel
theorem dX12_putBack_22 : decode cX12_putBack 22 = .ok (.iadd, 1) := by decide +kernel
theorem dX12_putBack_23 : decode cX12_putBack 23 = .ok (.iaload, 1) := by decide +kernel
theorem dX12_putBack_24 : decode cX12_putBack 24 = .ok (.iastore, 1) := by decide +kernel
theorem dX12_putBack_25 : decode cX12_putBack 25 = .ok (.iinc 2 1, 3) := by decide +kernel
theorem dX12_putBack_28 : decode cX12_putBack 28 = .ok (.goto (-26), 3) := by decide +kernel
theorem dX12_putBack_31 : decode cX12_putBack 31 = .ok (.return_, 1) := by decide +kernel
theorem dX12_here_0 : decode cX12_here 0 = .ok (.aload_n 0, 1) := by decide +kernel
theorem dX12_here_1 : decode cX12_here 1 = .ok (.getfield 61, 3) := by decide +kernel
theorem dX12_here_4 : decode cX12_here 4 = .ok (.aload_n 0, 1) := by decide +kernel
theorem dX12_here_5 : decode cX12_here 5 = .ok (.getfield 65, 3) := by decide +kernel
theorem dX12_here_8 : decode cX12_here 8 = .ok (.if_icmp .ge 27, 3) := by decide +kernel
theorem dX12_here_11 : decode cX12_here 11 = .ok (.aload_n 0, 1) := by decide +kernel
theorem dX12_here_12 : decode cX12_here 12 = .ok (.getfield 68, 3) := by decide +kernel
theorem dX12_here_15 : decode cX12_here 15 = .ok (.ifCond .ge 20, 3) := by decide +kernel
theorem dX12_here_18 : decode cX12_here 18 = .ok (.aload_n 0, 1) := by decide +kernel
theorem dX12_here_19 : decode cX12_here 19 = .ok (.getfield 7, 3) := by decide +kernel
theorem dX12_here_22 : decode cX12_here 22 = .ok (.aload_n 0, 1) := by decide +kernel
theorem dX12_here_23 : decode cX12_here 23 = .ok (.getfield 71, 3) := by decide +kernel
theorem dX12_here_26 : decode cX12_here 26 = .ok (.aload_n 0, 1) := by decide +kernel
theorem dX12_here_27 : decode cX12_here 27 = .ok (.getfield 61, 3) := by decide +kernel
theorem dX12_here_30 : decode cX12_here 30 = .ok (.iadd, 1) := by decide +kernel
theorem dX12_here_31 : decode cX12_here 31 = .ok (.iaload, 1) := by decide +kernel
theorem dX12_here_32 : decode cX12_here 32 = .ok (.goto 4, 3) := by decide +kernel
theorem dX12_here_35 : decode cX12_here 35 = .ok (.iconst (-1), 1) := by decide +kernel
theorem dX12_here_36 : decode cX12_here 36 = .ok (.ireturn, 1) := by decide +kernel
theorem dX12_wrong_0 : decode cX12_wrong 0 = .ok (.aload_n 0, 1) := by decide +kernel
theorem dX12_wrong_1 : decode cX12_wrong 1 = .ok (.aload_n 0, 1) := by decide +kernel
theorem dX12_wrong_2 : decode cX12_wrong 2 = .ok (.getfield 68, 3) := by decide +kernel
theorem dX12_wrong_5 : decode cX12_wrong 5 = .ok (.ifCond .ge 10, 3) := by decide +kernel
theorem dX12_wrong_8 : decode cX12_wrong 8 = .ok (.aload_n 0, 1) := by decide +kernel
theorem dX12_wrong_9 : decode cX12_wrong 9 = .ok (.getfield 61, 3) := by decide +kernel
theorem dX12_wrong_12 : decode cX12_wrong 12 = .ok (.goto 7, 3) := by decide +kernel
theorem dX12_wrong_15 : decode cX12_wrong 15 = .ok (.aload_n 0, 1) := by decide +kernel
theorem dX12_wrong_16 : decode cX12_wrong 16 = .ok (.getfield 68, 3) := by decide +kernel
theorem dX12_wrong_19 : decode cX12_wrong 19 = .ok (.putfield 68, 3) := by decide +kernel
theorem dX12_wrong_22 : decode cX12_wrong 22 = .ok (.iconst 0, 1) := by decide +kernel
theorem dX12_wrong_23 : decode cX12_wrong 23 = .ok (.ireturn, 1) := by decide +kernel
theorem dX12_takes_0 : decode cX12_takes 0 = .ok (.aload_n 0, 1) := by decide +kernel
theorem dX12_takes_1 : decode cX12_takes 1 = .ok (.invokevirtual 74, 3) := by decide +kernel
theorem dX12_takes_4 : decode cX12_takes 4 = .ok (.iload_n 1, 1) := by decide +kernel
theorem dX12_takes_5 : decode cX12_takes 5 = .ok (.if_icmp .eq 5, 3) := by decide +kernel
theorem dX12_takes_8 : decode cX12_takes 8 = .ok (.iconst 0, 1) := by decide +kernel
theorem dX12_takes_9 : decode cX12_takes 9 = .ok (.ireturn, 1) := by decide +kernel
theorem dX12_takes_10 : decode cX12_takes 10 = .ok (.aload_n 0, 1) := by decide +kernel
theorem dX12_takes_11 : decode cX12_takes 11 = .ok (.dup, 1) := by decide +kernel
theorem dX12_takes_12 : decode cX12_takes 12 = .ok (.getfield 61, 3) := by decide +kernel
theorem dX12_takes_15 : decode cX12_takes 15 = .ok (.iconst 1, 1) := by decide +kernel
theorem dX12_takes_16 : decode cX12_takes 16 = .ok (.iadd, 1) := by decide +kernel
theorem dX12_takes_17 : decode cX12_takes 17 = .ok (.putfield 61, 3) := by decide +kernel
theorem dX12_takes_20 : decode cX12_takes 20 = .ok (.iconst 1, 1) := by decide +kernel
theorem dX12_takes_21 : decode cX12_takes 21 = .ok (.ireturn, 1) := by decide +kernel
theorem dX12_nameOf_0 : decode cX12_nameOf 0 = .ok (.aload_n 0, 1) := by decide +kernel
theorem dX12_nameOf_1 : decode cX12_nameOf 1 = .ok (.getfield 77, 3) := by decide +kernel
theorem dX12_nameOf_4 : decode cX12_nameOf 4 = .ok (.ifCond .eq 35, 3) := by decide +kernel
theorem dX12_nameOf_7 : decode cX12_nameOf 7 = .ok (.iload_n 1, 1) := by decide +kernel
theorem dX12_nameOf_8 : decode cX12_nameOf 8 = .ok (.bipush 97, 2) := by decide +kernel
theorem dX12_nameOf_10 : decode cX12_nameOf 10 = .ok (.if_icmp .ne 7, 3) := by decide +kernel
theorem dX12_nameOf_13 : decode cX12_nameOf 13 = .ok (.iconst 0, 1) := by decide +kernel
theorem dX12_nameOf_14 : decode cX12_nameOf 14 = .ok (.goto 24, 3) := by decide +kernel
theorem dX12_nameOf_17 : decode cX12_nameOf 17 = .ok (.iload_n 1, 1) := by decide +kernel
theorem dX12_nameOf_18 : decode cX12_nameOf 18 = .ok (.bipush 114, 2) := by decide +kernel
theorem dX12_nameOf_20 : decode cX12_nameOf 20 = .ok (.if_icmp .ne 7, 3) := by decide +kernel
theorem dX12_nameOf_23 : decode cX12_nameOf 23 = .ok (.iconst 1, 1) := by decide +kernel
theorem dX12_nameOf_24 : decode cX12_nameOf 24 = .ok (.goto 14, 3) := by decide +kernel
theorem dX12_nameOf_27 : decode cX12_nameOf 27 = .ok (.iload_n 1, 1) := by decide +kernel
theorem dX12_nameOf_28 : decode cX12_nameOf 28 = .ok (.bipush 99, 2) := by decide +kernel
theorem dX12_nameOf_30 : decode cX12_nameOf 30 = .ok (.if_icmp .ne 7, 3) := by decide +kernel
theorem dX12_nameOf_33 : decode cX12_nameOf 33 = .ok (.iconst 2, 1) := by decide +kernel
theorem dX12_nameOf_34 : decode cX12_nameOf 34 = .ok (.goto 4, 3) := by decide +kernel
theorem dX12_nameOf_37 : decode cX12_nameOf 37 = .ok (.iconst (-1), 1) := by decide +kernel
theorem dX12_nameOf_38 : decode cX12_nameOf 38 = .ok (.ireturn, 1) := by decide +kernel
theorem dX12_nameOf_39 : decode cX12_nameOf 39 = .ok (.iload_n 1, 1) := by decide +kernel
theorem dX12_nameOf_40 : decode cX12_nameOf 40 = .ok (.bipush 97, 2) := by decide +kernel
theorem dX12_nameOf_42 : decode cX12_nameOf 42 = .ok (.if_icmp .ne 7, 3) := by decide +kernel
theorem dX12_nameOf_45 : decode cX12_nameOf 45 = .ok (.iconst 0, 1) := by decide +kernel
theorem dX12_nameOf_46 : decode cX12_nameOf 46 = .ok (.goto 24, 3) := by decide +kernel
theorem dX12_nameOf_49 : decode cX12_nameOf 49 = .ok (.iload_n 1, 1) := by decide +kernel
theorem dX12_nameOf_50 : decode cX12_nameOf 50 = .ok (.bipush 112, 2) := by decide +kernel
theorem dX12_nameOf_52 : decode cX12_nameOf 52 = .ok (.if_icmp .ne 7, 3) := by decide +kernel
theorem dX12_nameOf_55 : decode cX12_nameOf 55 = .ok (.iconst 1, 1) := by decide +kernel
theorem dX12_nameOf_56 : decode cX12_nameOf 56 = .ok (.goto 14, 3) := by decide +kernel
theorem dX12_nameOf_59 : decode cX12_nameOf 59 = .ok (.iload_n 1, 1) := by decide +kernel
theorem dX12_nameOf_60 : decode cX12_nameOf 60 = .ok (.bipush 109, 2) := by decide +kernel
theorem dX12_nameOf_62 : decode cX12_nameOf 62 = .ok (.if_icmp .ne 7, 3) := by decide +kernel
theorem dX12_nameOf_65 : decode cX12_nameOf 65 = .ok (.iconst 2, 1) := by decide +kernel
theorem dX12_nameOf_66 : decode cX12_nameOf 66 = .ok (.goto 4, 3) := by decide +kernel
theorem dX12_nameOf_69 : decode cX12_nameOf 69 = .ok (.iconst (-1), 1) := by decide +kernel
theorem dX12_nameOf_70 : decode cX12_nameOf 70 = .ok (.ireturn, 1) := by decide +kernel
theorem dX12_either_0 : decode cX12_either 0 = .ok (.aload_n 0, 1) := by decide +kernel
theorem dX12_either_1 : decode cX12_either 1 = .ok (.invokevirtual 81, 3) := by decide +kernel
theorem dX12_either_4 : decode cX12_either 4 = .ok (.istore_n 1, 1) := by decide +kernel
theorem dX12_either_5 : decode cX12_either 5 = .ok (.aload_n 0, 1) := by decide +kernel
theorem dX12_either_6 : decode cX12_either 6 = .ok (.bipush 124, 2) := by decide +kernel
theorem dX12_either_8 : decode cX12_either 8 = .ok (.invokevirtual 84, 3) := by decide +kernel
theorem dX12_either_11 : decode cX12_either 11 = .ok (.ifCond .eq 25, 3) := by decide +kernel
theorem dX12_either_14 : decode cX12_either 14 = .ok (.aload_n 0, 1) := by decide +kernel
theorem dX12_either_15 : decode cX12_either 15 = .ok (.invokevirtual 81, 3) := by decide +kernel
theorem dX12_either_18 : decode cX12_either 18 = .ok (.istore_n 2, 1) := by decide +kernel
theorem dX12_either_19 : decode cX12_either 19 = .ok (.iload_n 1, 1) := by decide +kernel
theorem dX12_either_20 : decode cX12_either 20 = .ok (.ifCond .ne 7, 3) := by decide +kernel
theorem dX12_either_23 : decode cX12_either 23 = .ok (.iload_n 2, 1) := by decide +kernel
theorem dX12_either_24 : decode cX12_either 24 = .ok (.ifCond .eq 7, 3) := by decide +kernel
theorem dX12_either_27 : decode cX12_either 27 = .ok (.iconst 1, 1) := by decide +kernel
theorem dX12_either_28 : decode cX12_either 28 = .ok (.goto 4, 3) := by decide +kernel
theorem dX12_either_31 : decode cX12_either 31 = .ok (.iconst 0, 1) := by decide +kernel
theorem dX12_either_32 : decode cX12_either 32 = .ok (.istore_n 1, 1) := by decide +kernel
theorem dX12_either_33 : decode cX12_either 33 = .ok (.goto (-28), 3) := by decide +kernel
theorem dX12_either_36 : decode cX12_either 36 = .ok (.iload_n 1, 1) := by decide +kernel
theorem dX12_either_37 : decode cX12_either 37 = .ok (.ireturn, 1) := by decide +kernel
theorem dX12_both_0 : decode cX12_both 0 = .ok (.aload_n 0, 1) := by decide +kernel
theorem dX12_both_1 : decode cX12_both 1 = .ok (.invokevirtual 88, 3) := by decide +kernel
theorem dX12_both_4 : decode cX12_both 4 = .ok (.istore_n 1, 1) := by decide +kernel
theorem dX12_both_5 : decode cX12_both 5 = .ok (.aload_n 0, 1) := by decide +kernel
theorem dX12_both_6 : decode cX12_both 6 = .ok (.bipush 38, 2) := by decide +kernel
theorem dX12_both_8 : decode cX12_both 8 = .ok (.invokevirtual 84, 3) := by decide +kernel
theorem dX12_both_11 : decode cX12_both 11 = .ok (.ifCond .eq 25, 3) := by decide +kernel
theorem dX12_both_14 : decode cX12_both 14 = .ok (.aload_n 0, 1) := by decide +kernel
theorem dX12_both_15 : decode cX12_both 15 = .ok (.invokevirtual 88, 3) := by decide +kernel
theorem dX12_both_18 : decode cX12_both 18 = .ok (.istore_n 2, 1) := by decide +kernel
theorem dX12_both_19 : decode cX12_both 19 = .ok (.iload_n 1, 1) := by decide +kernel
theorem dX12_both_20 : decode cX12_both 20 = .ok (.ifCond .eq 11, 3) := by decide +kernel
theorem dX12_both_23 : decode cX12_both 23 = .ok (.iload_n 2, 1) := by decide +kernel
theorem dX12_both_24 : decode cX12_both 24 = .ok (.ifCond .eq 7, 3) := by decide +kernel
theorem dX12_both_27 : decode cX12_both 27 = .ok (.iconst 1, 1) := by decide +kernel
theorem dX12_both_28 : decode cX12_both 28 = .ok (.goto 4, 3) := by decide +kernel
theorem dX12_both_31 : decode cX12_both 31 = .ok (.iconst 0, 1) := by decide +kernel
theorem dX12_both_32 : decode cX12_both 32 = .ok (.istore_n 1, 1) := by decide +kernel
theorem dX12_both_33 : decode cX12_both 33 = .ok (.goto (-28), 3) := by decide +kernel
theorem dX12_both_36 : decode cX12_both 36 = .ok (.iload_n 1, 1) := by decide +kernel
theorem dX12_both_37 : decode cX12_both 37 = .ok (.ireturn, 1) := by decide +kernel
theorem dX12_compared_0 : decode cX12_compared 0 = .ok (.aload_n 0, 1) := by decide +kernel
theorem dX12_compared_1 : decode cX12_compared 1 = .ok (.invokevirtual 91, 3) := by decide +kernel
theorem dX12_compared_4 : decode cX12_compared 4 = .ok (.istore_n 1, 1) := by decide +kernel
theorem dX12_compared_5 : decode cX12_compared 5 = .ok (.aload_n 0, 1) := by decide +kernel
theorem dX12_compared_6 : decode cX12_compared 6 = .ok (.invokevirtual 74, 3) := by decide +kernel
theorem dX12_compared_9 : decode cX12_compared 9 = .ok (.istore_n 2, 1) := by decide +kernel
theorem dX12_compared_10 : decode cX12_compared 10 = .ok (.iload_n 2, 1) := by decide +kernel
theorem dX12_compared_11 : decode cX12_compared 11 = .ok (.bipush 60, 2) := by decide +kernel
theorem dX12_compared_13 : decode cX12_compared 13 = .ok (.if_icmp .eq 17, 3) := by decide +kernel
theorem dX12_compared_16 : decode cX12_compared 16 = .ok (.iload_n 2, 1) := by decide +kernel
theorem dX12_compared_17 : decode cX12_compared 17 = .ok (.bipush 61, 2) := by decide +kernel
theorem dX12_compared_19 : decode cX12_compared 19 = .ok (.if_icmp .eq 11, 3) := by decide +kernel
theorem dX12_compared_22 : decode cX12_compared 22 = .ok (.iload_n 2, 1) := by decide +kernel
theorem dX12_compared_23 : decode cX12_compared 23 = .ok (.bipush 62, 2) := by decide +kernel
theorem dX12_compared_25 : decode cX12_compared 25 = .ok (.if_icmp .eq 5, 3) := by decide +kernel
theorem dX12_compared_28 : decode cX12_compared 28 = .ok (.iload_n 1, 1) := by decide +kernel
theorem dX12_compared_29 : decode cX12_compared 29 = .ok (.ireturn, 1) := by decide +kernel
theorem dX12_compared_30 : decode cX12_compared 30 = .ok (.aload_n 0, 1) := by decide +kernel
theorem dX12_compared_31 : decode cX12_compared 31 = .ok (.dup, 1) := by decide +kernel
theorem dX12_compared_32 : decode cX12_compared 32 = .ok (.getfield 61, 3) := by decide +kernel
theorem dX12_compared_35 : decode cX12_compared 35 = .ok (.iconst 1, 1) := by decide +kernel
theorem dX12_compared_36 : decode cX12_compared 36 = .ok (.iadd, 1) := by decide +kernel
theorem dX12_compared_37 : decode cX12_compared 37 = .ok (.putfield 61, 3) := by decide +kernel
theorem dX12_compared_40 : decode cX12_compared 40 = .ok (.aload_n 0, 1) := by decide +kernel
theorem dX12_compared_41 : decode cX12_compared 41 = .ok (.invokevirtual 91, 3) := by decide +kernel
theorem dX12_compared_44 : decode cX12_compared 44 = .ok (.istore_n 3, 1) := by decide +kernel
theorem dX12_compared_45 : decode cX12_compared 45 = .ok (.iload_n 2, 1) := by decide +kernel
theorem dX12_compared_46 : decode cX12_compared 46 = .ok (.bipush 60, 2) := by decide +kernel
theorem dX12_compared_48 : decode cX12_compared 48 = .ok (.if_icmp .ne 11, 3) := by decide +kernel
theorem dX12_compared_51 : decode cX12_compared 51 = .ok (.iload_n 1, 1) := by decide +kernel
theorem dX12_compared_52 : decode cX12_compared 52 = .ok (.iload_n 3, 1) := by decide +kernel
theorem dX12_compared_53 : decode cX12_compared 53 = .ok (.if_icmp .ge 29, 3) := by decide +kernel
theorem dX12_compared_56 : decode cX12_compared 56 = .ok (.goto 22, 3) := by decide +kernel
theorem dX12_compared_59 : decode cX12_compared 59 = .ok (.iload_n 2, 1) := by decide +kernel
theorem dX12_compared_60 : decode cX12_compared 60 = .ok (.bipush 61, 2) := by decide +kernel
theorem dX12_compared_62 : decode cX12_compared 62 = .ok (.if_icmp .ne 11, 3) := by decide +kernel
theorem dX12_compared_65 : decode cX12_compared 65 = .ok (.iload_n 1, 1) := by decide +kernel
theorem dX12_compared_66 : decode cX12_compared 66 = .ok (.iload_n 3, 1) := by decide +kernel
theorem dX12_compared_67 : decode cX12_compared 67 = .ok (.if_icmp .ne 15, 3) := by decide +kernel
theorem dX12_compared_70 : decode cX12_compared 70 = .ok (.goto 8, 3) := by decide +kernel
theorem dX12_compared_73 : decode cX12_compared 73 = .ok (.iload_n 1, 1) := by decide +kernel
theorem dX12_compared_74 : decode cX12_compared 74 = .ok (.iload_n 3, 1) := by decide +kernel
theorem dX12_compared_75 : decode cX12_compared 75 = .ok (.if_icmp .le 7, 3) := by decide +kernel
theorem dX12_compared_78 : decode cX12_compared 78 = .ok (.iconst 1, 1) := by decide +kernel
theorem dX12_compared_79 : decode cX12_compared 79 = .ok (.goto 4, 3) := by decide +kernel
theorem dX12_compared_82 : decode cX12_compared 82 = .ok (.iconst 0, 1) := by decide +kernel
theorem dX12_compared_83 : decode cX12_compared 83 = .ok (.ireturn, 1) := by decide +kernel
theorem dX12_sum_0 : decode cX12_sum 0 = .ok (.aload_n 0, 1) := by decide +kernel
theorem dX12_sum_1 : decode cX12_sum 1 = .ok (.invokevirtual 94, 3) := by decide +kernel
theorem dX12_sum_4 : decode cX12_sum 4 = .ok (.istore_n 1, 1) := by decide +kernel
theorem dX12_sum_5 : decode cX12_sum 5 = .ok (.aload_n 0, 1) := by decide +kernel
theorem dX12_sum_6 : decode cX12_sum 6 = .ok (.invokevirtual 74, 3) := by decide +kernel
theorem dX12_sum_9 : decode cX12_sum 9 = .ok (.bipush 43, 2) := by decide +kernel
theorem dX12_sum_11 : decode cX12_sum 11 = .ok (.if_icmp .eq 12, 3) := by decide +kernel
theorem dX12_sum_14 : decode cX12_sum 14 = .ok (.aload_n 0, 1) := by decide +kernel
theorem dX12_sum_15 : decode cX12_sum 15 = .ok (.invokevirtual 74, 3) := by decide +kernel
theorem dX12_sum_18 : decode cX12_sum 18 = .ok (.bipush 45, 2) := by decide +kernel
theorem dX12_sum_20 : decode cX12_sum 20 = .ok (.if_icmp .ne 42, 3) := by decide +kernel
theorem dX12_sum_23 : decode cX12_sum 23 = .ok (.aload_n 0, 1) := by decide +kernel
theorem dX12_sum_24 : decode cX12_sum 24 = .ok (.invokevirtual 74, 3) := by decide +kernel
theorem dX12_sum_27 : decode cX12_sum 27 = .ok (.istore_n 2, 1) := by decide +kernel
theorem dX12_sum_28 : decode cX12_sum 28 = .ok (.aload_n 0, 1) := by decide +kernel
theorem dX12_sum_29 : decode cX12_sum 29 = .ok (.dup, 1) := by decide +kernel
theorem dX12_sum_30 : decode cX12_sum 30 = .ok (.getfield 61, 3) := by decide +kernel
theorem dX12_sum_33 : decode cX12_sum 33 = .ok (.iconst 1, 1) := by decide +kernel
theorem dX12_sum_34 : decode cX12_sum 34 = .ok (.iadd, 1) := by decide +kernel
theorem dX12_sum_35 : decode cX12_sum 35 = .ok (.putfield 61, 3) := by decide +kernel
theorem dX12_sum_38 : decode cX12_sum 38 = .ok (.aload_n 0, 1) := by decide +kernel
theorem dX12_sum_39 : decode cX12_sum 39 = .ok (.invokevirtual 94, 3) := by decide +kernel
theorem dX12_sum_42 : decode cX12_sum 42 = .ok (.istore_n 3, 1) := by decide +kernel
theorem dX12_sum_43 : decode cX12_sum 43 = .ok (.iload_n 2, 1) := by decide +kernel
theorem dX12_sum_44 : decode cX12_sum 44 = .ok (.bipush 43, 2) := by decide +kernel
theorem dX12_sum_46 : decode cX12_sum 46 = .ok (.if_icmp .ne 9, 3) := by decide +kernel
theorem dX12_sum_49 : decode cX12_sum 49 = .ok (.iload_n 1, 1) := by decide +kernel
theorem dX12_sum_50 : decode cX12_sum 50 = .ok (.iload_n 3, 1) := by decide +kernel
theorem dX12_sum_51 : decode cX12_sum 51 = .ok (.iadd, 1) := by decide +kernel
theorem dX12_sum_52 : decode cX12_sum 52 = .ok (.goto 6, 3) := by decide +kernel
theorem dX12_sum_55 : decode cX12_sum 55 = .ok (.iload_n 1, 1) := by decide +kernel
theorem dX12_sum_56 : decode cX12_sum 56 = .ok (.iload_n 3, 1) := by decide +kernel
theorem dX12_sum_57 : decode cX12_sum 57 = .ok (.isub, 1) := by decide +kernel
theorem dX12_sum_58 : decode cX12_sum 58 = .ok (.istore_n 1, 1) := by decide +kernel
theorem dX12_sum_59 : decode cX12_sum 59 = .ok (.goto (-54), 3) := by decide +kernel
theorem dX12_sum_62 : decode cX12_sum 62 = .ok (.iload_n 1, 1) := by decide +kernel
theorem dX12_sum_63 : decode cX12_sum 63 = .ok (.ireturn, 1) := by decide +kernel
theorem dX12_product_0 : decode cX12_product 0 = .ok (.aload_n 0, 1) := by decide +kernel
theorem dX12_product_1 : decode cX12_product 1 = .ok (.invokevirtual 97, 3) := by decide +kernel
theorem dX12_product_4 : decode cX12_product 4 = .ok (.istore_n 1, 1) := by decide +kernel
theorem dX12_product_5 : decode cX12_product 5 = .ok (.aload_n 0, 1) := by decide +kernel
theorem dX12_product_6 : decode cX12_product 6 = .ok (.invokevirtual 74, 3) := by decide +kernel
theorem dX12_product_9 : decode cX12_product 9 = .ok (.bipush 42, 2) := by decide +kernel
theorem dX12_product_11 : decode cX12_product 11 = .ok (.if_icmp .eq 21, 3) := by decide +kernel
theorem dX12_product_14 : decode cX12_product 14 = .ok (.aload_n 0, 1) := by decide +kernel
theorem dX12_product_15 : decode cX12_product 15 = .ok (.invokevirtual 74, 3) := by decide +kernel
theorem dX12_product_18 : decode cX12_product 18 = .ok (.bipush 47, 2) := by decide +kernel
theorem dX12_product_20 : decode cX12_product 20 = .ok (.if_icmp .eq 12, 3) := by decide +kernel
theorem dX12_product_23 : decode cX12_product 23 = .ok (.aload_n 0, 1) := by decide +kernel
theorem dX12_product_24 : decode cX12_product 24 = .ok (.invokevirtual 74, 3) := by decide +kernel
theorem dX12_product_27 : decode cX12_product 27 = .ok (.bipush 37, 2) := by decide +kernel
theorem dX12_product_29 : decode cX12_product 29 = .ok (.if_icmp .ne 62, 3) := by decide +kernel
theorem dX12_product_32 : decode cX12_product 32 = .ok (.aload_n 0, 1) := by decide +kernel
theorem dX12_product_33 : decode cX12_product 33 = .ok (.invokevirtual 74, 3) := by decide +kernel
theorem dX12_product_36 : decode cX12_product 36 = .ok (.istore_n 2, 1) := by decide +kernel
theorem dX12_product_37 : decode cX12_product 37 = .ok (.aload_n 0, 1) := by decide +kernel
theorem dX12_product_38 : decode cX12_product 38 = .ok (.dup, 1) := by decide +kernel
theorem dX12_product_39 : decode cX12_product 39 = .ok (.getfield 61, 3) := by decide +kernel
theorem dX12_product_42 : decode cX12_product 42 = .ok (.iconst 1, 1) := by decide +kernel
theorem dX12_product_43 : decode cX12_product 43 = .ok (.iadd, 1) := by decide +kernel
theorem dX12_product_44 : decode cX12_product 44 = .ok (.putfield 61, 3) := by decide +kernel
theorem dX12_product_47 : decode cX12_product 47 = .ok (.aload_n 0, 1) := by decide +kernel
theorem dX12_product_48 : decode cX12_product 48 = .ok (.invokevirtual 97, 3) := by decide +kernel
theorem dX12_product_51 : decode cX12_product 51 = .ok (.istore_n 3, 1) := by decide +kernel
theorem dX12_product_52 : decode cX12_product 52 = .ok (.iload_n 2, 1) := by decide +kernel
theorem dX12_product_53 : decode cX12_product 53 = .ok (.bipush 42, 2) := by decide +kernel
theorem dX12_product_55 : decode cX12_product 55 = .ok (.if_icmp .ne 9, 3) := by decide +kernel
theorem dX12_product_58 : decode cX12_product 58 = .ok (.iload_n 1, 1) := by decide +kernel
theorem dX12_product_59 : decode cX12_product 59 = .ok (.iload_n 3, 1) := by decide +kernel
theorem dX12_product_60 : decode cX12_product 60 = .ok (.imul, 1) := by decide +kernel
theorem dX12_product_61 : decode cX12_product 61 = .ok (.goto 26, 3) := by decide +kernel
theorem dX12_product_64 : decode cX12_product 64 = .ok (.iload_n 3, 1) := by decide +kernel
theorem dX12_product_65 : decode cX12_product 65 = .ok (.ifCond .ne 7, 3) := by decide +kernel
theorem dX12_product_68 : decode cX12_product 68 = .ok (.iconst 0, 1) := by decide +kernel
theorem dX12_product_69 : decode cX12_product 69 = .ok (.goto 18, 3) := by decide +kernel
theorem dX12_product_72 : decode cX12_product 72 = .ok (.iload_n 2, 1) := by decide +kernel
theorem dX12_product_73 : decode cX12_product 73 = .ok (.bipush 47, 2) := by decide +kernel
theorem dX12_product_75 : decode cX12_product 75 = .ok (.if_icmp .ne 9, 3) := by decide +kernel
theorem dX12_product_78 : decode cX12_product 78 = .ok (.iload_n 1, 1) := by decide +kernel
theorem dX12_product_79 : decode cX12_product 79 = .ok (.iload_n 3, 1) := by decide +kernel
theorem dX12_product_80 : decode cX12_product 80 = .ok (.idiv, 1) := by decide +kernel
theorem dX12_product_81 : decode cX12_product 81 = .ok (.goto 6, 3) := by decide +kernel
theorem dX12_product_84 : decode cX12_product 84 = .ok (.iload_n 1, 1) := by decide +kernel
theorem dX12_product_85 : decode cX12_product 85 = .ok (.iload_n 3, 1) := by decide +kernel
theorem dX12_product_86 : decode cX12_product 86 = .ok (.irem, 1) := by decide +kernel
theorem dX12_product_87 : decode cX12_product 87 = .ok (.istore_n 1, 1) := by decide +kernel
theorem dX12_product_88 : decode cX12_product 88 = .ok (.goto (-83), 3) := by decide +kernel
theorem dX12_product_91 : decode cX12_product 91 = .ok (.iload_n 1, 1) := by decide +kernel
theorem dX12_product_92 : decode cX12_product 92 = .ok (.ireturn, 1) := by decide +kernel
theorem dX12_unit_0 : decode cX12_unit 0 = .ok (.aload_n 0, 1) := by decide +kernel
theorem dX12_unit_1 : decode cX12_unit 1 = .ok (.invokevirtual 74, 3) := by decide +kernel
theorem dX12_unit_4 : decode cX12_unit 4 = .ok (.istore_n 1, 1) := by decide +kernel
theorem dX12_unit_5 : decode cX12_unit 5 = .ok (.iload_n 1, 1) := by decide +kernel
theorem dX12_unit_6 : decode cX12_unit 6 = .ok (.bipush 33, 2) := by decide +kernel
theorem dX12_unit_8 : decode cX12_unit 8 = .ok (.if_icmp .eq 9, 3) := by decide +kernel
theorem dX12_unit_11 : decode cX12_unit 11 = .ok (.iload_n 1, 1) := by decide +kernel
theorem dX12_unit_12 : decode cX12_unit 12 = .ok (.bipush 40, 2) := by decide +kernel
theorem dX12_unit_14 : decode cX12_unit 14 = .ok (.if_icmp .ne 104, 3) := by decide +kernel
theorem dX12_unit_17 : decode cX12_unit 17 = .ok (.aload_n 0, 1) := by decide +kernel
theorem dX12_unit_18 : decode cX12_unit 18 = .ok (.getfield 100, 3) := by decide +kernel
theorem dX12_unit_21 : decode cX12_unit 21 = .ok (.iconst 5, 1) := by decide +kernel
theorem dX12_unit_22 : decode cX12_unit 22 = .ok (.if_icmp .ne 8, 3) := by decide +kernel
theorem dX12_unit_25 : decode cX12_unit 25 = .ok (.aload_n 0, 1) := by decide +kernel
theorem dX12_unit_26 : decode cX12_unit 26 = .ok (.invokevirtual 103, 3) := by decide +kernel
theorem dX12_unit_29 : decode cX12_unit 29 = .ok (.ireturn, 1) := by decide +kernel
theorem dX12_unit_30 : decode cX12_unit 30 = .ok (.aload_n 0, 1) := by decide +kernel
theorem dX12_unit_31 : decode cX12_unit 31 = .ok (.dup, 1) := by decide +kernel
theorem dX12_unit_32 : decode cX12_unit 32 = .ok (.getfield 100, 3) := by decide +kernel
theorem dX12_unit_35 : decode cX12_unit 35 = .ok (.iconst 1, 1) := by decide +kernel
theorem dX12_unit_36 : decode cX12_unit 36 = .ok (.iadd, 1) := by decide +kernel
theorem dX12_unit_37 : decode cX12_unit 37 = .ok (.putfield 100, 3) := by decide +kernel
theorem dX12_unit_40 : decode cX12_unit 40 = .ok (.aload_n 0, 1) := by decide +kernel
theorem dX12_unit_41 : decode cX12_unit 41 = .ok (.dup, 1) := by decide +kernel
theorem dX12_unit_42 : decode cX12_unit 42 = .ok (.getfield 61, 3) := by decide +kernel
theorem dX12_unit_45 : decode cX12_unit 45 = .ok (.iconst 1, 1) := by decide +kernel
theorem dX12_unit_46 : decode cX12_unit 46 = .ok (.iadd, 1) := by decide +kernel
theorem dX12_unit_47 : decode cX12_unit 47 = .ok (.putfield 61, 3) := by decide +kernel
theorem dX12_unit_50 : decode cX12_unit 50 = .ok (.iload_n 1, 1) := by decide +kernel
theorem dX12_unit_51 : decode cX12_unit 51 = .ok (.bipush 40, 2) := by decide +kernel
theorem dX12_unit_53 : decode cX12_unit 53 = .ok (.if_icmp .ne 10, 3) := by decide +kernel
theorem dX12_unit_56 : decode cX12_unit 56 = .ok (.aload_n 0, 1) := by decide +kernel
theorem dX12_unit_57 : decode cX12_unit 57 = .ok (.invokevirtual 106, 3) := by decide +kernel
theorem dX12_unit_60 : decode cX12_unit 60 = .ok (.goto 7, 3) := by decide +kernel
theorem dX12_unit_63 : decode cX12_unit 63 = .ok (.aload_n 0, 1) := by decide +kernel
theorem dX12_unit_64 : decode cX12_unit 64 = .ok (.invokevirtual 97, 3) := by decide +kernel
theorem dX12_unit_67 : decode cX12_unit 67 = .ok (.istore_n 2, 1) := by decide +kernel
theorem dX12_unit_68 : decode cX12_unit 68 = .ok (.iload_n 1, 1) := by decide +kernel
theorem dX12_unit_69 : decode cX12_unit 69 = .ok (.bipush 40, 2) := by decide +kernel
theorem dX12_unit_71 : decode cX12_unit 71 = .ok (.if_icmp .ne 17, 3) := by decide +kernel
theorem dX12_unit_74 : decode cX12_unit 74 = .ok (.aload_n 0, 1) := by decide +kernel
theorem dX12_unit_75 : decode cX12_unit 75 = .ok (.bipush 41, 2) := by decide +kernel
theorem dX12_unit_77 : decode cX12_unit 77 = .ok (.invokevirtual 84, 3) := by decide +kernel
theorem dX12_unit_80 : decode cX12_unit 80 = .ok (.ifCond .ne 8, 3) := by decide +kernel
theorem dX12_unit_83 : decode cX12_unit 83 = .ok (.aload_n 0, 1) := by decide +kernel
theorem dX12_unit_84 : decode cX12_unit 84 = .ok (.invokevirtual 103, 3) := by decide +kernel
theorem dX12_unit_87 : decode cX12_unit 87 = .ok (.ireturn, 1) := by decide +kernel
theorem dX12_unit_88 : decode cX12_unit 88 = .ok (.aload_n 0, 1) := by decide +kernel
theorem dX12_unit_89 : decode cX12_unit 89 = .ok (.dup, 1) := by decide +kernel
theorem dX12_unit_90 : decode cX12_unit 90 = .ok (.getfield 100, 3) := by decide +kernel
theorem dX12_unit_93 : decode cX12_unit 93 = .ok (.iconst 1, 1) := by decide +kernel
theorem dX12_unit_94 : decode cX12_unit 94 = .ok (.isub, 1) := by decide +kernel
theorem dX12_unit_95 : decode cX12_unit 95 = .ok (.putfield 100, 3) := by decide +kernel
theorem dX12_unit_98 : decode cX12_unit 98 = .ok (.iload_n 1, 1) := by decide +kernel
theorem dX12_unit_99 : decode cX12_unit 99 = .ok (.bipush 40, 2) := by decide +kernel
theorem dX12_unit_101 : decode cX12_unit 101 = .ok (.if_icmp .ne 7, 3) := by decide +kernel
theorem dX12_unit_104 : decode cX12_unit 104 = .ok (.iload_n 2, 1) := by decide +kernel
theorem dX12_unit_105 : decode cX12_unit 105 = .ok (.goto 12, 3) := by decide +kernel
theorem dX12_unit_108 : decode cX12_unit 108 = .ok (.iload_n 2, 1) := by decide +kernel
theorem dX12_unit_109 : decode cX12_unit 109 = .ok (.ifCond .ne 7, 3) := by decide +kernel
theorem dX12_unit_112 : decode cX12_unit 112 = .ok (.iconst 1, 1) := by decide +kernel
theorem dX12_unit_113 : decode cX12_unit 113 = .ok (.goto 4, 3) := by decide +kernel
theorem dX12_unit_116 : decode cX12_unit 116 = .ok (.iconst 0, 1) := by decide +kernel
theorem dX12_unit_117 : decode cX12_unit 117 = .ok (.ireturn, 1) := by decide +kernel
theorem dX12_unit_118 : decode cX12_unit 118 = .ok (.aload_n 0, 1) := by decide +kernel
theorem dX12_unit_119 : decode cX12_unit 119 = .ok (.iload_n 1, 1) := by decide +kernel
theorem dX12_unit_120 : decode cX12_unit 120 = .ok (.invokevirtual 109, 3) := by decide +kernel
theorem dX12_unit_123 : decode cX12_unit 123 = .ok (.istore_n 2, 1) := by decide +kernel
theorem dX12_unit_124 : decode cX12_unit 124 = .ok (.iload_n 2, 1) := by decide +kernel
theorem dX12_unit_125 : decode cX12_unit 125 = .ok (.ifCond .lt 20, 3) := by decide +kernel
theorem dX12_unit_128 : decode cX12_unit 128 = .ok (.aload_n 0, 1) := by decide +kernel
theorem dX12_unit_129 : decode cX12_unit 129 = .ok (.dup, 1) := by decide +kernel
theorem dX12_unit_130 : decode cX12_unit 130 = .ok (.getfield 61, 3) := by decide +kernel
theorem dX12_unit_133 : decode cX12_unit 133 = .ok (.iconst 1, 1) := by decide +kernel
theorem dX12_unit_134 : decode cX12_unit 134 = .ok (.iadd, 1) := by decide +kernel
theorem dX12_unit_135 : decode cX12_unit 135 = .ok (.putfield 61, 3) := by decide +kernel
theorem dX12_unit_138 : decode cX12_unit 138 = .ok (.aload_n 0, 1) := by decide +kernel
theorem dX12_unit_139 : decode cX12_unit 139 = .ok (.getfield 22, 3) := by decide +kernel
theorem dX12_unit_142 : decode cX12_unit 142 = .ok (.iload_n 2, 1) := by decide +kernel
theorem dX12_unit_143 : decode cX12_unit 143 = .ok (.iaload, 1) := by decide +kernel
theorem dX12_unit_144 : decode cX12_unit 144 = .ok (.ireturn, 1) := by decide +kernel
theorem dX12_unit_145 : decode cX12_unit 145 = .ok (.iconst 0, 1) := by decide +kernel
theorem dX12_unit_146 : decode cX12_unit 146 = .ok (.istore_n 3, 1) := by decide +kernel
theorem dX12_unit_147 : decode cX12_unit 147 = .ok (.iconst 0, 1) := by decide +kernel
theorem dX12_unit_148 : decode cX12_unit 148 = .ok (.istore 4, 2) := by decide +kernel
theorem dX12_unit_150 : decode cX12_unit 150 = .ok (.iload 4, 2) := by decide +kernel
theorem dX12_unit_152 : decode cX12_unit 152 = .ok (.iconst 4, 1) := by decide +kernel
theorem dX12_unit_153 : decode cX12_unit 153 = .ok (.if_icmp .ge 49, 3) := by decide +kernel
theorem dX12_unit_156 : decode cX12_unit 156 = .ok (.aload_n 0, 1) := by decide +kernel
theorem dX12_unit_157 : decode cX12_unit 157 = .ok (.invokevirtual 74, 3) := by decide +kernel
theorem dX12_unit_160 : decode cX12_unit 160 = .ok (.i2l, 1) := by decide +kernel
theorem dX12_unit_161 : decode cX12_unit 161 = .ok (.ldc2_w 113, 3) := by decide +kernel
theorem dX12_unit_164 : decode cX12_unit 164 = .ok (.ldc2_w 115, 3) := by decide +kernel
theorem dX12_unit_167 : decode cX12_unit 167 = .ok (.invokestatic 55, 3) := by decide +kernel
theorem dX12_unit_170 : decode cX12_unit 170 = .ok (.ifCond .eq 32, 3) := by decide +kernel
theorem dX12_unit_173 : decode cX12_unit 173 = .ok (.bipush 10, 2) := by decide +kernel
theorem dX12_unit_175 : decode cX12_unit 175 = .ok (.iload_n 3, 1) := by decide +kernel
theorem dX12_unit_176 : decode cX12_unit 176 = .ok (.imul, 1) := by decide +kernel
theorem dX12_unit_177 : decode cX12_unit 177 = .ok (.aload_n 0, 1) := by decide +kernel
theorem dX12_unit_178 : decode cX12_unit 178 = .ok (.invokevirtual 74, 3) := by decide +kernel
theorem dX12_unit_181 : decode cX12_unit 181 = .ok (.iadd, 1) := by decide +kernel
theorem dX12_unit_182 : decode cX12_unit 182 = .ok (.bipush 48, 2) := by decide +kernel
theorem dX12_unit_184 : decode cX12_unit 184 = .ok (.isub, 1) := by decide +kernel
theorem dX12_unit_185 : decode cX12_unit 185 = .ok (.istore_n 3, 1) := by decide +kernel
theorem dX12_unit_186 : decode cX12_unit 186 = .ok (.aload_n 0, 1) := by decide +kernel
theorem dX12_unit_187 : decode cX12_unit 187 = .ok (.dup, 1) := by decide +kernel
theorem dX12_unit_188 : decode cX12_unit 188 = .ok (.getfield 61, 3) := by decide +kernel
theorem dX12_unit_191 : decode cX12_unit 191 = .ok (.iconst 1, 1) := by decide +kernel
theorem dX12_unit_192 : decode cX12_unit 192 = .ok (.iadd, 1) := by decide +kernel
theorem dX12_unit_193 : decode cX12_unit 193 = .ok (.putfield 61, 3) := by decide +kernel
theorem dX12_unit_196 : decode cX12_unit 196 = .ok (.iinc 4 1, 3) := by decide +kernel
theorem dX12_unit_199 : decode cX12_unit 199 = .ok (.goto (-49), 3) := by decide +kernel
theorem dX12_unit_202 : decode cX12_unit 202 = .ok (.iload 4, 2) := by decide +kernel
theorem dX12_unit_204 : decode cX12_unit 204 = .ok (.ifCond .ne 10, 3) := by decide +kernel
theorem dX12_unit_207 : decode cX12_unit 207 = .ok (.aload_n 0, 1) := by decide +kernel
theorem dX12_unit_208 : decode cX12_unit 208 = .ok (.invokevirtual 103, 3) := by decide +kernel
theorem dX12_unit_211 : decode cX12_unit 211 = .ok (.goto 4, 3) := by decide +kernel
theorem dX12_unit_214 : decode cX12_unit 214 = .ok (.iload_n 3, 1) := by decide +kernel
theorem dX12_unit_215 : decode cX12_unit 215 = .ok (.ireturn, 1) := by decide +kernel
theorem dX12_worked_0 : decode cX12_worked 0 = .ok (.aload_n 0, 1) := by decide +kernel
theorem dX12_worked_1 : decode cX12_worked 1 = .ok (.iload_n 1, 1) := by decide +kernel
theorem dX12_worked_2 : decode cX12_worked 2 = .ok (.putfield 71, 3) := by decide +kernel
theorem dX12_worked_5 : decode cX12_worked 5 = .ok (.aload_n 0, 1) := by decide +kernel
theorem dX12_worked_6 : decode cX12_worked 6 = .ok (.iconst 0, 1) := by decide +kernel
theorem dX12_worked_7 : decode cX12_worked 7 = .ok (.putfield 61, 3) := by decide +kernel
theorem dX12_worked_10 : decode cX12_worked 10 = .ok (.aload_n 0, 1) := by decide +kernel
theorem dX12_worked_11 : decode cX12_worked 11 = .ok (.iload_n 2, 1) := by decide +kernel
theorem dX12_worked_12 : decode cX12_worked 12 = .ok (.putfield 65, 3) := by decide +kernel
theorem dX12_worked_15 : decode cX12_worked 15 = .ok (.aload_n 0, 1) := by decide +kernel
theorem dX12_worked_16 : decode cX12_worked 16 = .ok (.iconst (-1), 1) := by decide +kernel
theorem dX12_worked_17 : decode cX12_worked 17 = .ok (.putfield 68, 3) := by decide +kernel
theorem dX12_worked_20 : decode cX12_worked 20 = .ok (.aload_n 0, 1) := by decide +kernel
theorem dX12_worked_21 : decode cX12_worked 21 = .ok (.iconst 0, 1) := by decide +kernel
theorem dX12_worked_22 : decode cX12_worked 22 = .ok (.putfield 100, 3) := by decide +kernel
theorem dX12_worked_25 : decode cX12_worked 25 = .ok (.aload_n 0, 1) := by decide +kernel
theorem dX12_worked_26 : decode cX12_worked 26 = .ok (.iload_n 3, 1) := by decide +kernel
theorem dX12_worked_27 : decode cX12_worked 27 = .ok (.iconst 1, 1) := by decide +kernel
theorem dX12_worked_28 : decode cX12_worked 28 = .ok (.if_icmp .ne 7, 3) := by decide +kernel
theorem dX12_worked_31 : decode cX12_worked 31 = .ok (.iconst 1, 1) := by decide +kernel
theorem dX12_worked_32 : decode cX12_worked 32 = .ok (.goto 4, 3) := by decide +kernel
theorem dX12_worked_35 : decode cX12_worked 35 = .ok (.iconst 0, 1) := by decide +kernel
theorem dX12_worked_36 : decode cX12_worked 36 = .ok (.putfield 77, 3) := by decide +kernel
theorem dX12_worked_39 : decode cX12_worked 39 = .ok (.aload_n 0, 1) := by decide +kernel
theorem dX12_worked_40 : decode cX12_worked 40 = .ok (.invokevirtual 106, 3) := by decide +kernel
theorem dX12_worked_43 : decode cX12_worked 43 = .ok (.istore 4, 2) := by decide +kernel
theorem dX12_worked_45 : decode cX12_worked 45 = .ok (.aload_n 0, 1) := by decide +kernel
theorem dX12_worked_46 : decode cX12_worked 46 = .ok (.getfield 68, 3) := by decide +kernel
theorem dX12_worked_49 : decode cX12_worked 49 = .ok (.ifCond .ge 19, 3) := by decide +kernel
theorem dX12_worked_52 : decode cX12_worked 52 = .ok (.aload_n 0, 1) := by decide +kernel
theorem dX12_worked_53 : decode cX12_worked 53 = .ok (.getfield 61, 3) := by decide +kernel
theorem dX12_worked_56 : decode cX12_worked 56 = .ok (.aload_n 0, 1) := by decide +kernel
theorem dX12_worked_57 : decode cX12_worked 57 = .ok (.getfield 65, 3) := by decide +kernel
theorem dX12_worked_60 : decode cX12_worked 60 = .ok (.if_icmp .ge 8, 3) := by decide +kernel
theorem dX12_worked_63 : decode cX12_worked 63 = .ok (.aload_n 0, 1) := by decide +kernel
theorem dX12_worked_64 : decode cX12_worked 64 = .ok (.invokevirtual 103, 3) := by decide +kernel
theorem dX12_worked_67 : decode cX12_worked 67 = .ok (.ireturn, 1) := by decide +kernel
theorem dX12_worked_68 : decode cX12_worked 68 = .ok (.iload 4, 2) := by decide +kernel
theorem dX12_worked_70 : decode cX12_worked 70 = .ok (.ireturn, 1) := by decide +kernel
theorem dX12_feed_0 : decode cX12_feed 0 = .ok (.iload_n 3, 1) := by decide +kernel
theorem dX12_feed_1 : decode cX12_feed 1 = .ok (.i2l, 1) := by decide +kernel
theorem dX12_feed_2 : decode cX12_feed 2 = .ok (.lconst 1, 1) := by decide +kernel
theorem dX12_feed_3 : decode cX12_feed 3 = .ok (.ldc2_w 117, 3) := by decide +kernel
theorem dX12_feed_6 : decode cX12_feed 6 = .ok (.invokestatic 55, 3) := by decide +kernel
theorem dX12_feed_9 : decode cX12_feed 9 = .ok (.ifCond .ne 9, 3) := by decide +kernel
theorem dX12_feed_12 : decode cX12_feed 12 = .ok (.aload_n 0, 1) := by decide +kernel
theorem dX12_feed_13 : decode cX12_feed 13 = .ok (.iconst 1, 1) := by decide +kernel
theorem dX12_feed_14 : decode cX12_feed 14 = .ok (.invokevirtual 119, 3) := by decide +kernel
theorem dX12_feed_17 : decode cX12_feed 17 = .ok (.ireturn, 1) := by decide +kernel
theorem dX12_feed_18 : decode cX12_feed 18 = .ok (.aload_n 0, 1) := by decide +kernel
theorem dX12_feed_19 : decode cX12_feed 19 = .ok (.getfield 7, 3) := by decide +kernel
theorem dX12_feed_22 : decode cX12_feed 22 = .ok (.bipush 7, 2) := by decide +kernel
theorem dX12_feed_24 : decode cX12_feed 24 = .ok (.iaload, 1) := by decide +kernel
theorem dX12_feed_25 : decode cX12_feed 25 = .ok (.iload_n 3, 1) := by decide +kernel
theorem dX12_feed_26 : decode cX12_feed 26 = .ok (.iadd, 1) := by decide +kernel
theorem dX12_feed_27 : decode cX12_feed 27 = .ok (.bipush 50, 2) := by decide +kernel
theorem dX12_feed_29 : decode cX12_feed 29 = .ok (.if_icmp .le 9, 3) := by decide +kernel
theorem dX12_feed_32 : decode cX12_feed 32 = .ok (.aload_n 0, 1) := by decide +kernel
theorem dX12_feed_33 : decode cX12_feed 33 = .ok (.iconst 4, 1) := by decide +kernel
theorem dX12_feed_34 : decode cX12_feed 34 = .ok (.invokevirtual 119, 3) := by decide +kernel
theorem dX12_feed_37 : decode cX12_feed 37 = .ok (.ireturn, 1) := by decide +kernel
theorem dX12_feed_38 : decode cX12_feed 38 = .ok (.iconst 0, 1) := by decide +kernel
theorem dX12_feed_39 : decode cX12_feed 39 = .ok (.istore 4, 2) := by decide +kernel
theorem dX12_feed_41 : decode cX12_feed 41 = .ok (.iload 4, 2) := by decide +kernel
theorem dX12_feed_43 : decode cX12_feed 43 = .ok (.iload_n 3, 1) := by decide +kernel
theorem dX12_feed_44 : decode cX12_feed 44 = .ok (.if_icmp .ge 48, 3) := by decide +kernel
theorem dX12_feed_47 : decode cX12_feed 47 = .ok (.aload_n 0, 1) := by decide +kernel
theorem dX12_feed_48 : decode cX12_feed 48 = .ok (.getfield 7, 3) := by decide +kernel
theorem dX12_feed_51 : decode cX12_feed 51 = .ok (.sipush 194, 3) := by decide +kernel
theorem dX12_feed_54 : decode cX12_feed 54 = .ok (.aload_n 0, 1) := by decide +kernel
theorem dX12_feed_55 : decode cX12_feed 55 = .ok (.getfield 7, 3) := by decide +kernel
theorem dX12_feed_58 : decode cX12_feed 58 = .ok (.bipush 7, 2) := by decide +kernel
theorem dX12_feed_60 : decode cX12_feed 60 = .ok (.iaload, 1) := by decide +kernel
theorem dX12_feed_61 : decode cX12_feed 61 = .ok (.iadd, 1) := by decide +kernel
theorem dX12_feed_62 : decode cX12_feed 62 = .ok (.lload_n 1, 1) := by decide +kernel
theorem dX12_feed_63 : decode cX12_feed 63 = .ok (.bipush 8, 2) := by decide +kernel
theorem dX12_feed_65 : decode cX12_feed 65 = .ok (.iload 4, 2) := by decide +kernel
theorem dX12_feed_67 : decode cX12_feed 67 = .ok (.imul, 1) := by decide +kernel
theorem dX12_feed_68 : decode cX12_feed 68 = .ok (.lshr, 1) := by decide +kernel
theorem dX12_feed_69 : decode cX12_feed 69 = .ok (.ldc2_w 122, 3) := by decide +kernel
theorem dX12_feed_72 : decode cX12_feed 72 = .ok (.land, 1) := by decide +kernel
theorem dX12_feed_73 : decode cX12_feed 73 = .ok (.l2i, 1) := by decide +kernel
theorem dX12_feed_74 : decode cX12_feed 74 = .ok (.iastore, 1) := by decide +kernel
theorem dX12_feed_75 : decode cX12_feed 75 = .ok (.aload_n 0, 1) := by decide +kernel
theorem dX12_feed_76 : decode cX12_feed 76 = .ok (.getfield 7, 3) := by decide +kernel
theorem dX12_feed_79 : decode cX12_feed 79 = .ok (.bipush 7, 2) := by decide +kernel
theorem dX12_feed_81 : decode cX12_feed 81 = .ok (.dup2, 1) := by decide +kernel
theorem dX12_feed_82 : decode cX12_feed 82 = .ok (.iaload, 1) := by decide +kernel
theorem dX12_feed_83 : decode cX12_feed 83 = .ok (.iconst 1, 1) := by decide +kernel
theorem dX12_feed_84 : decode cX12_feed 84 = .ok (.iadd, 1) := by decide +kernel
theorem dX12_feed_85 : decode cX12_feed 85 = .ok (.iastore, 1) := by decide +kernel
theorem dX12_feed_86 : decode cX12_feed 86 = .ok (.iinc 4 1, 3) := by decide +kernel
theorem dX12_feed_89 : decode cX12_feed 89 = .ok (.goto (-48), 3) := by decide +kernel
theorem dX12_feed_92 : decode cX12_feed 92 = .ok (.aload_n 0, 1) := by decide +kernel
theorem dX12_feed_93 : decode cX12_feed 93 = .ok (.getfield 7, 3) := by decide +kernel
theorem dX12_feed_96 : decode cX12_feed 96 = .ok (.bipush 7, 2) := by decide +kernel
theorem dX12_feed_98 : decode cX12_feed 98 = .ok (.iaload, 1) := by decide +kernel
theorem dX12_feed_99 : decode cX12_feed 99 = .ok (.ireturn, 1) := by decide +kernel
theorem dX12_text_0 : decode cX12_text 0 = .ok (.iload_n 1, 1) := by decide +kernel
theorem dX12_text_1 : decode cX12_text 1 = .ok (.i2l, 1) := by decide +kernel
theorem dX12_text_2 : decode cX12_text 2 = .ok (.lconst 0, 1) := by decide +kernel
theorem dX12_text_3 : decode cX12_text 3 = .ok (.lconst 1, 1) := by decide +kernel
theorem dX12_text_4 : decode cX12_text 4 = .ok (.invokestatic 55, 3) := by decide +kernel
theorem dX12_text_7 : decode cX12_text 7 = .ok (.ifCond .ne 9, 3) := by decide +kernel
theorem dX12_text_10 : decode cX12_text 10 = .ok (.aload_n 0, 1) := by decide +kernel
theorem dX12_text_11 : decode cX12_text 11 = .ok (.iconst 1, 1) := by decide +kernel
theorem dX12_text_12 : decode cX12_text 12 = .ok (.invokevirtual 119, 3) := by decide +kernel
theorem dX12_text_15 : decode cX12_text 15 = .ok (.ireturn, 1) := by decide +kernel
theorem dX12_text_16 : decode cX12_text 16 = .ok (.aload_n 0, 1) := by decide +kernel
theorem dX12_text_17 : decode cX12_text 17 = .ok (.getfield 7, 3) := by decide +kernel
theorem dX12_text_20 : decode cX12_text 20 = .ok (.bipush 7, 2) := by decide +kernel
theorem dX12_text_22 : decode cX12_text 22 = .ok (.iaload, 1) := by decide +kernel
theorem dX12_text_23 : decode cX12_text 23 = .ok (.istore_n 2, 1) := by decide +kernel
theorem dX12_text_24 : decode cX12_text 24 = .ok (.aload_n 0, 1) := by decide +kernel
theorem dX12_text_25 : decode cX12_text 25 = .ok (.getfield 7, 3) := by decide +kernel
theorem dX12_text_28 : decode cX12_text 28 = .ok (.bipush 7, 2) := by decide +kernel
theorem dX12_text_30 : decode cX12_text 30 = .ok (.iconst 0, 1) := by decide +kernel
theorem dX12_text_31 : decode cX12_text 31 = .ok (.iastore, 1) := by decide +kernel
theorem dX12_text_32 : decode cX12_text 32 = .ok (.aload_n 0, 1) := by decide +kernel
theorem dX12_text_33 : decode cX12_text 33 = .ok (.sipush 194, 3) := by decide +kernel
theorem dX12_text_36 : decode cX12_text 36 = .ok (.iload_n 2, 1) := by decide +kernel
theorem dX12_text_37 : decode cX12_text 37 = .ok (.iload_n 1, 1) := by decide +kernel
theorem dX12_text_38 : decode cX12_text 38 = .ok (.invokevirtual 124, 3) := by decide +kernel
theorem dX12_text_41 : decode cX12_text 41 = .ok (.istore_n 3, 1) := by decide +kernel
theorem dX12_text_42 : decode cX12_text 42 = .ok (.aload_n 0, 1) := by decide +kernel
theorem dX12_text_43 : decode cX12_text 43 = .ok (.getfield 68, 3) := by decide +kernel
theorem dX12_text_46 : decode cX12_text 46 = .ok (.ifCond .lt 11, 3) := by decide +kernel
theorem dX12_text_49 : decode cX12_text 49 = .ok (.bipush (-10), 2) := by decide +kernel
theorem dX12_text_51 : decode cX12_text 51 = .ok (.aload_n 0, 1) := by decide +kernel
theorem dX12_text_52 : decode cX12_text 52 = .ok (.getfield 68, 3) := by decide +kernel
theorem dX12_text_55 : decode cX12_text 55 = .ok (.isub, 1) := by decide +kernel
theorem dX12_text_56 : decode cX12_text 56 = .ok (.ireturn, 1) := by decide +kernel
theorem dX12_text_57 : decode cX12_text 57 = .ok (.aload_n 0, 1) := by decide +kernel
theorem dX12_text_58 : decode cX12_text 58 = .ok (.getfield 7, 3) := by decide +kernel
theorem dX12_text_61 : decode cX12_text 61 = .ok (.bipush 72, 2) := by decide +kernel
theorem dX12_text_63 : decode cX12_text 63 = .ok (.iload_n 1, 1) := by decide +kernel
theorem dX12_text_64 : decode cX12_text 64 = .ok (.iadd, 1) := by decide +kernel
theorem dX12_text_65 : decode cX12_text 65 = .ok (.iload_n 2, 1) := by decide +kernel
theorem dX12_text_66 : decode cX12_text 66 = .ok (.iastore, 1) := by decide +kernel
theorem dX12_text_67 : decode cX12_text 67 = .ok (.iconst 0, 1) := by decide +kernel
theorem dX12_text_68 : decode cX12_text 68 = .ok (.istore 4, 2) := by decide +kernel
theorem dX12_text_70 : decode cX12_text 70 = .ok (.iload 4, 2) := by decide +kernel
theorem dX12_text_72 : decode cX12_text 72 = .ok (.iload_n 2, 1) := by decide +kernel
theorem dX12_text_73 : decode cX12_text 73 = .ok (.if_icmp .ge 35, 3) := by decide +kernel
theorem dX12_text_76 : decode cX12_text 76 = .ok (.aload_n 0, 1) := by decide +kernel
theorem dX12_text_77 : decode cX12_text 77 = .ok (.getfield 7, 3) := by decide +kernel
theorem dX12_text_80 : decode cX12_text 80 = .ok (.bipush 94, 2) := by decide +kernel
theorem dX12_text_82 : decode cX12_text 82 = .ok (.bipush 50, 2) := by decide +kernel
theorem dX12_text_84 : decode cX12_text 84 = .ok (.iload_n 1, 1) := by decide +kernel
theorem dX12_text_85 : decode cX12_text 85 = .ok (.imul, 1) := by decide +kernel
theorem dX12_text_86 : decode cX12_text 86 = .ok (.iadd, 1) := by decide +kernel
theorem dX12_text_87 : decode cX12_text 87 = .ok (.iload 4, 2) := by decide +kernel
theorem dX12_text_89 : decode cX12_text 89 = .ok (.iadd, 1) := by decide +kernel
theorem dX12_text_90 : decode cX12_text 90 = .ok (.aload_n 0, 1) := by decide +kernel
theorem dX12_text_91 : decode cX12_text 91 = .ok (.getfield 7, 3) := by decide +kernel
theorem dX12_text_94 : decode cX12_text 94 = .ok (.sipush 194, 3) := by decide +kernel
theorem dX12_text_97 : decode cX12_text 97 = .ok (.iload 4, 2) := by decide +kernel
theorem dX12_text_99 : decode cX12_text 99 = .ok (.iadd, 1) := by decide +kernel
theorem dX12_text_100 : decode cX12_text 100 = .ok (.iaload, 1) := by decide +kernel
theorem dX12_text_101 : decode cX12_text 101 = .ok (.iastore, 1) := by decide +kernel
theorem dX12_text_102 : decode cX12_text 102 = .ok (.iinc 4 1, 3) := by decide +kernel
theorem dX12_text_105 : decode cX12_text 105 = .ok (.goto (-35), 3) := by decide +kernel
theorem dX12_text_108 : decode cX12_text 108 = .ok (.iconst 1, 1) := by decide +kernel
theorem dX12_text_109 : decode cX12_text 109 = .ok (.ireturn, 1) := by decide +kernel
theorem dX12_textGives_0 : decode cX12_textGives 0 = .ok (.iload_n 1, 1) := by decide +kernel
theorem dX12_textGives_1 : decode cX12_textGives 1 = .ok (.ifCond .ne 9, 3) := by decide +kernel
theorem dX12_textGives_4 : decode cX12_textGives 4 = .ok (.iload_n 2, 1) := by decide +kernel
theorem dX12_textGives_5 : decode cX12_textGives 5 = .ok (.iconst 2, 1) := by decide +kernel
theorem dX12_textGives_6 : decode cX12_textGives 6 = .ok (.idiv, 1) := by decide +kernel
theorem dX12_textGives_7 : decode cX12_textGives 7 = .ok (.goto 4, 3) := by decide +kernel
theorem dX12_textGives_10 : decode cX12_textGives 10 = .ok (.iload_n 2, 1) := by decide +kernel
theorem dX12_textGives_11 : decode cX12_textGives 11 = .ok (.istore 5, 2) := by decide +kernel
theorem dX12_textGives_13 : decode cX12_textGives 13 = .ok (.aload_n 0, 1) := by decide +kernel
theorem dX12_textGives_14 : decode cX12_textGives 14 = .ok (.getfield 7, 3) := by decide +kernel
theorem dX12_textGives_17 : decode cX12_textGives 17 = .ok (.bipush 72, 2) := by decide +kernel
theorem dX12_textGives_19 : decode cX12_textGives 19 = .ok (.iload_n 1, 1) := by decide +kernel
theorem dX12_textGives_20 : decode cX12_textGives 20 = .ok (.iadd, 1) := by decide +kernel
theorem dX12_textGives_21 : decode cX12_textGives 21 = .ok (.iaload, 1) := by decide +kernel
theorem dX12_textGives_22 : decode cX12_textGives 22 = .ok (.ifCond .le 48, 3) := by decide +kernel
theorem dX12_textGives_25 : decode cX12_textGives 25 = .ok (.aload_n 0, 1) := by decide +kernel
theorem dX12_textGives_26 : decode cX12_textGives 26 = .ok (.getfield 22, 3) := by decide +kernel
theorem dX12_textGives_29 : decode cX12_textGives 29 = .ok (.iconst 0, 1) := by decide +kernel
theorem dX12_textGives_30 : decode cX12_textGives 30 = .ok (.iload_n 2, 1) := by decide +kernel
theorem dX12_textGives_31 : decode cX12_textGives 31 = .ok (.iastore, 1) := by decide +kernel
theorem dX12_textGives_32 : decode cX12_textGives 32 = .ok (.aload_n 0, 1) := by decide +kernel
theorem dX12_textGives_33 : decode cX12_textGives 33 = .ok (.getfield 22, 3) := by decide +kernel
theorem dX12_textGives_36 : decode cX12_textGives 36 = .ok (.iconst 1, 1) := by decide +kernel
theorem dX12_textGives_37 : decode cX12_textGives 37 = .ok (.iload_n 3, 1) := by decide +kernel
theorem dX12_textGives_38 : decode cX12_textGives 38 = .ok (.iastore, 1) := by decide +kernel
theorem dX12_textGives_39 : decode cX12_textGives 39 = .ok (.aload_n 0, 1) := by decide +kernel
theorem dX12_textGives_40 : decode cX12_textGives 40 = .ok (.getfield 22, 3) := by decide +kernel
theorem dX12_textGives_43 : decode cX12_textGives 43 = .ok (.iconst 2, 1) := by decide +kernel
theorem dX12_textGives_44 : decode cX12_textGives 44 = .ok (.iload 4, 2) := by decide +kernel
theorem dX12_textGives_46 : decode cX12_textGives 46 = .ok (.iastore, 1) := by decide +kernel
theorem dX12_textGives_47 : decode cX12_textGives 47 = .ok (.aload_n 0, 1) := by decide +kernel
theorem dX12_textGives_48 : decode cX12_textGives 48 = .ok (.bipush 94, 2) := by decide +kernel
theorem dX12_textGives_50 : decode cX12_textGives 50 = .ok (.bipush 50, 2) := by decide +kernel
theorem dX12_textGives_52 : decode cX12_textGives 52 = .ok (.iload_n 1, 1) := by decide +kernel
theorem dX12_textGives_53 : decode cX12_textGives 53 = .ok (.imul, 1) := by decide +kernel
theorem dX12_textGives_54 : decode cX12_textGives 54 = .ok (.iadd, 1) := by decide +kernel
theorem dX12_textGives_55 : decode cX12_textGives 55 = .ok (.aload_n 0, 1) := by decide +kernel
theorem dX12_textGives_56 : decode cX12_textGives 56 = .ok (.getfield 7, 3) := by decide +kernel
theorem dX12_textGives_59 : decode cX12_textGives 59 = .ok (.bipush 72, 2) := by decide +kernel
theorem dX12_textGives_61 : decode cX12_textGives 61 = .ok (.iload_n 1, 1) := by decide +kernel
theorem dX12_textGives_62 : decode cX12_textGives 62 = .ok (.iadd, 1) := by decide +kernel
theorem dX12_textGives_63 : decode cX12_textGives 63 = .ok (.iaload, 1) := by decide +kernel
theorem dX12_textGives_64 : decode cX12_textGives 64 = .ok (.iload_n 1, 1) := by decide +kernel
theorem dX12_textGives_65 : decode cX12_textGives 65 = .ok (.invokevirtual 124, 3) := by decide +kernel
theorem dX12_textGives_68 : decode cX12_textGives 68 = .ok (.istore 5, 2) := by decide +kernel
theorem dX12_textGives_70 : decode cX12_textGives 70 = .ok (.iload 5, 2) := by decide +kernel
theorem dX12_textGives_72 : decode cX12_textGives 72 = .ok (.iconst 0, 1) := by decide +kernel
theorem dX12_textGives_73 : decode cX12_textGives 73 = .ok (.bipush 99, 2) := by decide +kernel
theorem dX12_textGives_75 : decode cX12_textGives 75 = .ok (.invokestatic 128, 3) := by decide +kernel
theorem dX12_textGives_78 : decode cX12_textGives 78 = .ok (.ireturn, 1) := by decide +kernel
theorem dX12_law_0 : decode cX12_law 0 = .ok (.iload_n 1, 1) := by decide +kernel
theorem dX12_law_1 : decode cX12_law 1 = .ok (.i2l, 1) := by decide +kernel
theorem dX12_law_2 : decode cX12_law 2 = .ok (.lconst 0, 1) := by decide +kernel
theorem dX12_law_3 : decode cX12_law 3 = .ok (.lconst 1, 1) := by decide +kernel
theorem dX12_law_4 : decode cX12_law 4 = .ok (.invokestatic 55, 3) := by decide +kernel
theorem dX12_law_7 : decode cX12_law 7 = .ok (.ifCond .eq 15, 3) := by decide +kernel
theorem dX12_law_10 : decode cX12_law 10 = .ok (.aload_n 0, 1) := by decide +kernel
theorem dX12_law_11 : decode cX12_law 11 = .ok (.iload_n 1, 1) := by decide +kernel
theorem dX12_law_12 : decode cX12_law 12 = .ok (.iload_n 2, 1) := by decide +kernel
theorem dX12_law_13 : decode cX12_law 13 = .ok (.iload_n 3, 1) := by decide +kernel
theorem dX12_law_14 : decode cX12_law 14 = .ok (.iload 4, 2) := by decide +kernel
theorem dX12_law_16 : decode cX12_law 16 = .ok (.invokevirtual 131, 3) := by decide +kernel
theorem dX12_law_19 : decode cX12_law 19 = .ok (.goto 8, 3) := by decide +kernel
theorem dX12_law_22 : decode cX12_law 22 = .ok (.aload_n 0, 1) := by decide +kernel
theorem dX12_law_23 : decode cX12_law 23 = .ok (.iconst 1, 1) := by decide +kernel
theorem dX12_law_24 : decode cX12_law 24 = .ok (.invokevirtual 119, 3) := by decide +kernel
theorem dX12_law_27 : decode cX12_law 27 = .ok (.ireturn, 1) := by decide +kernel
theorem dX12_wall_0 : decode cX12_wall 0 = .ok (.iload_n 1, 1) := by decide +kernel
theorem dX12_wall_1 : decode cX12_wall 1 = .ok (.i2l, 1) := by decide +kernel
theorem dX12_wall_2 : decode cX12_wall 2 = .ok (.lconst 1, 1) := by decide +kernel
theorem dX12_wall_3 : decode cX12_wall 3 = .ok (.ldc2_w 135, 3) := by decide +kernel
theorem dX12_wall_6 : decode cX12_wall 6 = .ok (.invokestatic 55, 3) := by decide +kernel
theorem dX12_wall_9 : decode cX12_wall 9 = .ok (.ifCond .eq 15, 3) := by decide +kernel
theorem dX12_wall_12 : decode cX12_wall 12 = .ok (.iload_n 2, 1) := by decide +kernel
theorem dX12_wall_13 : decode cX12_wall 13 = .ok (.i2l, 1) := by decide +kernel
theorem dX12_wall_14 : decode cX12_wall 14 = .ok (.lconst 1, 1) := by decide +kernel
theorem dX12_wall_15 : decode cX12_wall 15 = .ok (.ldc2_w 135, 3) := by decide +kernel
theorem dX12_wall_18 : decode cX12_wall 18 = .ok (.invokestatic 55, 3) := by decide +kernel
theorem dX12_wall_21 : decode cX12_wall 21 = .ok (.ifCond .ne 9, 3) := by decide +kernel
theorem dX12_wall_24 : decode cX12_wall 24 = .ok (.aload_n 0, 1) := by decide +kernel
theorem dX12_wall_25 : decode cX12_wall 25 = .ok (.iconst 1, 1) := by decide +kernel
theorem dX12_wall_26 : decode cX12_wall 26 = .ok (.invokevirtual 119, 3) := by decide +kernel
theorem dX12_wall_29 : decode cX12_wall 29 = .ok (.ireturn, 1) := by decide +kernel
theorem dX12_wall_30 : decode cX12_wall 30 = .ok (.aload_n 0, 1) := by decide +kernel
theorem dX12_wall_31 : decode cX12_wall 31 = .ok (.iload_n 1, 1) := by decide +kernel
theorem dX12_wall_32 : decode cX12_wall 32 = .ok (.iload_n 2, 1) := by decide +kernel
theorem dX12_wall_33 : decode cX12_wall 33 = .ok (.invokevirtual 46, 3) := by decide +kernel
theorem dX12_wall_36 : decode cX12_wall 36 = .ok (.iload_n 1, 1) := by decide +kernel
theorem dX12_wall_37 : decode cX12_wall 37 = .ok (.iload_n 2, 1) := by decide +kernel
theorem dX12_wall_38 : decode cX12_wall 38 = .ok (.imul, 1) := by decide +kernel
theorem dX12_wall_39 : decode cX12_wall 39 = .ok (.ireturn, 1) := by decide +kernel
theorem dX12_set_0 : decode cX12_set 0 = .ok (.aload_n 0, 1) := by decide +kernel
theorem dX12_set_1 : decode cX12_set 1 = .ok (.iload_n 1, 1) := by decide +kernel
theorem dX12_set_2 : decode cX12_set 2 = .ok (.invokevirtual 137, 3) := by decide +kernel
theorem dX12_set_5 : decode cX12_set 5 = .ok (.ifCond .eq 35, 3) := by decide +kernel
theorem dX12_set_8 : decode cX12_set 8 = .ok (.iload_n 2, 1) := by decide +kernel
theorem dX12_set_9 : decode cX12_set 9 = .ok (.i2l, 1) := by decide +kernel
theorem dX12_set_10 : decode cX12_set 10 = .ok (.lconst 0, 1) := by decide +kernel
theorem dX12_set_11 : decode cX12_set 11 = .ok (.lconst 1, 1) := by decide +kernel
theorem dX12_set_12 : decode cX12_set 12 = .ok (.invokestatic 55, 3) := by decide +kernel
theorem dX12_set_15 : decode cX12_set 15 = .ok (.ifCond .eq 25, 3) := by decide +kernel
theorem dX12_set_18 : decode cX12_set 18 = .ok (.iload_n 3, 1) := by decide +kernel
theorem dX12_set_19 : decode cX12_set 19 = .ok (.i2l, 1) := by decide +kernel
theorem dX12_set_20 : decode cX12_set 20 = .ok (.lconst 0, 1) := by decide +kernel
theorem dX12_set_21 : decode cX12_set 21 = .ok (.iload_n 2, 1) := by decide +kernel
theorem dX12_set_22 : decode cX12_set 22 = .ok (.ifCond .ne 9, 3) := by decide +kernel
theorem dX12_set_25 : decode cX12_set 25 = .ok (.ldc2_w 140, 3) := by decide +kernel
theorem dX12_set_28 : decode cX12_set 28 = .ok (.goto 6, 3) := by decide +kernel
theorem dX12_set_31 : decode cX12_set 31 = .ok (.ldc2_w 142, 3) := by decide +kernel
theorem dX12_set_34 : decode cX12_set 34 = .ok (.invokestatic 55, 3) := by decide +kernel
theorem dX12_set_37 : decode cX12_set 37 = .ok (.ifCond .ne 9, 3) := by decide +kernel
theorem dX12_set_40 : decode cX12_set 40 = .ok (.aload_n 0, 1) := by decide +kernel
theorem dX12_set_41 : decode cX12_set 41 = .ok (.iconst 1, 1) := by decide +kernel
theorem dX12_set_42 : decode cX12_set 42 = .ok (.invokevirtual 119, 3) := by decide +kernel
theorem dX12_set_45 : decode cX12_set 45 = .ok (.ireturn, 1) := by decide +kernel
theorem dX12_set_46 : decode cX12_set 46 = .ok (.iload_n 2, 1) := by decide +kernel
theorem dX12_set_47 : decode cX12_set 47 = .ok (.ifCond .ne 8, 3) := by decide +kernel
theorem dX12_set_50 : decode cX12_set 50 = .ok (.bipush 10, 2) := by decide +kernel
theorem dX12_set_52 : decode cX12_set 52 = .ok (.goto 5, 3) := by decide +kernel
theorem dX12_set_55 : decode cX12_set 55 = .ok (.bipush 35, 2) := by decide +kernel
theorem dX12_set_57 : decode cX12_set 57 = .ok (.iload_n 1, 1) := by decide +kernel
theorem dX12_set_58 : decode cX12_set 58 = .ok (.iadd, 1) := by decide +kernel
theorem dX12_set_59 : decode cX12_set 59 = .ok (.istore 4, 2) := by decide +kernel
theorem dX12_set_61 : decode cX12_set 61 = .ok (.aload_n 0, 1) := by decide +kernel
theorem dX12_set_62 : decode cX12_set 62 = .ok (.getfield 7, 3) := by decide +kernel
theorem dX12_set_65 : decode cX12_set 65 = .ok (.iload 4, 2) := by decide +kernel
theorem dX12_set_67 : decode cX12_set 67 = .ok (.iaload, 1) := by decide +kernel
theorem dX12_set_68 : decode cX12_set 68 = .ok (.istore 5, 2) := by decide +kernel
theorem dX12_set_70 : decode cX12_set 70 = .ok (.aload_n 0, 1) := by decide +kernel
theorem dX12_set_71 : decode cX12_set 71 = .ok (.getfield 7, 3) := by decide +kernel
theorem dX12_set_74 : decode cX12_set 74 = .ok (.iload 4, 2) := by decide +kernel
theorem dX12_set_76 : decode cX12_set 76 = .ok (.iload_n 3, 1) := by decide +kernel
theorem dX12_set_77 : decode cX12_set 77 = .ok (.iastore, 1) := by decide +kernel
theorem dX12_set_78 : decode cX12_set 78 = .ok (.iload 5, 2) := by decide +kernel
theorem dX12_set_80 : decode cX12_set 80 = .ok (.ireturn, 1) := by decide +kernel
theorem dX12_keepsAnew_0 : decode cX12_keepsAnew 0 = .ok (.aload_n 0, 1) := by decide +kernel
theorem dX12_keepsAnew_1 : decode cX12_keepsAnew 1 = .ok (.iconst 1, 1) := by decide +kernel
theorem dX12_keepsAnew_2 : decode cX12_keepsAnew 2 = .ok (.putfield 144, 3) := by decide +kernel
theorem dX12_keepsAnew_5 : decode cX12_keepsAnew 5 = .ok (.iconst 0, 1) := by decide +kernel
theorem dX12_keepsAnew_6 : decode cX12_keepsAnew 6 = .ok (.istore_n 1, 1) := by decide +kernel
theorem dX12_keepsAnew_7 : decode cX12_keepsAnew 7 = .ok (.iload_n 1, 1) := by decide +kernel
theorem dX12_keepsAnew_8 : decode cX12_keepsAnew 8 = .ok (.sipush 2500, 3) := by decide +kernel
theorem dX12_keepsAnew_11 : decode cX12_keepsAnew 11 = .ok (.if_icmp .ge 16, 3) := by decide +kernel
theorem dX12_keepsAnew_14 : decode cX12_keepsAnew 14 = .ok (.aload_n 0, 1) := by decide +kernel
theorem dX12_keepsAnew_15 : decode cX12_keepsAnew 15 = .ok (.getfield 25, 3) := by decide +kernel
theorem dX12_keepsAnew_18 : decode cX12_keepsAnew 18 = .ok (.iload_n 1, 1) := by decide +kernel
theorem dX12_keepsAnew_19 : decode cX12_keepsAnew 19 = .ok (.iconst (-1), 1) := by decide +kernel
theorem dX12_keepsAnew_20 : decode cX12_keepsAnew 20 = .ok (.iastore, 1) := by decide +kernel
theorem dX12_keepsAnew_21 : decode cX12_keepsAnew 21 = .ok (.iinc 1 1, 3) := by decide +kernel
theorem dX12_keepsAnew_24 : decode cX12_keepsAnew 24 = .ok (.goto (-17), 3) := by decide +kernel
theorem dX12_keepsAnew_27 : decode cX12_keepsAnew 27 = .ok (.iconst 0, 1) := by decide +kernel
theorem dX12_keepsAnew_28 : decode cX12_keepsAnew 28 = .ok (.istore_n 1, 1) := by decide +kernel
theorem dX12_keepsAnew_29 : decode cX12_keepsAnew 29 = .ok (.iload_n 1, 1) := by decide +kernel
theorem dX12_keepsAnew_30 : decode cX12_keepsAnew 30 = .ok (.sipush 1000, 3) := by decide +kernel
theorem dX12_keepsAnew_33 : decode cX12_keepsAnew 33 = .ok (.if_icmp .ge 16, 3) := by decide +kernel
theorem dX12_keepsAnew_36 : decode cX12_keepsAnew 36 = .ok (.aload_n 0, 1) := by decide +kernel
theorem dX12_keepsAnew_37 : decode cX12_keepsAnew 37 = .ok (.getfield 28, 3) := by decide +kernel
theorem dX12_keepsAnew_40 : decode cX12_keepsAnew 40 = .ok (.iload_n 1, 1) := by decide +kernel
theorem dX12_keepsAnew_41 : decode cX12_keepsAnew 41 = .ok (.iconst (-1), 1) := by decide +kernel
theorem dX12_keepsAnew_42 : decode cX12_keepsAnew 42 = .ok (.iastore, 1) := by decide +kernel
theorem dX12_keepsAnew_43 : decode cX12_keepsAnew 43 = .ok (.iinc 1 1, 3) := by decide +kernel
theorem dX12_keepsAnew_46 : decode cX12_keepsAnew 46 = .ok (.goto (-17), 3) := by decide +kernel
theorem dX12_keepsAnew_49 : decode cX12_keepsAnew 49 = .ok (.return_, 1) := by decide +kernel
theorem dX12_seenOf_0 : decode cX12_seenOf 0 = .ok (.bipush 100, 2) := by decide +kernel
theorem dX12_seenOf_2 : decode cX12_seenOf 2 = .ok (.iload_n 1, 1) := by decide +kernel
theorem dX12_seenOf_3 : decode cX12_seenOf 3 = .ok (.imul, 1) := by decide +kernel
theorem dX12_seenOf_4 : decode cX12_seenOf 4 = .ok (.aload_n 0, 1) := by decide +kernel
theorem dX12_seenOf_5 : decode cX12_seenOf 5 = .ok (.getfield 7, 3) := by decide +kernel
theorem dX12_seenOf_8 : decode cX12_seenOf 8 = .ok (.bipush 10, 2) := by decide +kernel
theorem dX12_seenOf_10 : decode cX12_seenOf 10 = .ok (.iload_n 1, 1) := by decide +kernel
theorem dX12_seenOf_11 : decode cX12_seenOf 11 = .ok (.iadd, 1) := by decide +kernel
theorem dX12_seenOf_12 : decode cX12_seenOf 12 = .ok (.iaload, 1) := by decide +kernel
theorem dX12_seenOf_13 : decode cX12_seenOf 13 = .ok (.iadd, 1) := by decide +kernel
theorem dX12_seenOf_14 : decode cX12_seenOf 14 = .ok (.istore_n 2, 1) := by decide +kernel
theorem dX12_seenOf_15 : decode cX12_seenOf 15 = .ok (.aload_n 0, 1) := by decide +kernel
theorem dX12_seenOf_16 : decode cX12_seenOf 16 = .ok (.getfield 144, 3) := by decide +kernel
theorem dX12_seenOf_19 : decode cX12_seenOf 19 = .ok (.ifCond .eq 19, 3) := by decide +kernel
theorem dX12_seenOf_22 : decode cX12_seenOf 22 = .ok (.aload_n 0, 1) := by decide +kernel
theorem dX12_seenOf_23 : decode cX12_seenOf 23 = .ok (.getfield 25, 3) := by decide +kernel
theorem dX12_seenOf_26 : decode cX12_seenOf 26 = .ok (.iload_n 2, 1) := by decide +kernel
theorem dX12_seenOf_27 : decode cX12_seenOf 27 = .ok (.iaload, 1) := by decide +kernel
theorem dX12_seenOf_28 : decode cX12_seenOf 28 = .ok (.ifCond .lt 10, 3) := by decide +kernel
theorem dX12_seenOf_31 : decode cX12_seenOf 31 = .ok (.aload_n 0, 1) := by decide +kernel
theorem dX12_seenOf_32 : decode cX12_seenOf 32 = .ok (.getfield 25, 3) := by decide +kernel
theorem dX12_seenOf_35 : decode cX12_seenOf 35 = .ok (.iload_n 2, 1) := by decide +kernel
theorem dX12_seenOf_36 : decode cX12_seenOf 36 = .ok (.iaload, 1) := by decide +kernel
theorem dX12_seenOf_37 : decode cX12_seenOf 37 = .ok (.ireturn, 1) := by decide +kernel
theorem dX12_seenOf_38 : decode cX12_seenOf 38 = .ok (.aload_n 0, 1) := by decide +kernel
theorem dX12_seenOf_39 : decode cX12_seenOf 39 = .ok (.iconst 1, 1) := by decide +kernel
theorem dX12_seenOf_40 : decode cX12_seenOf 40 = .ok (.aload_n 0, 1) := by decide +kernel
theorem dX12_seenOf_41 : decode cX12_seenOf 41 = .ok (.getfield 7, 3) := by decide +kernel
theorem dX12_seenOf_44 : decode cX12_seenOf 44 = .ok (.bipush 10, 2) := by decide +kernel
theorem dX12_seenOf_46 : decode cX12_seenOf 46 = .ok (.iload_n 1, 1) := by decide +kernel
theorem dX12_seenOf_47 : decode cX12_seenOf 47 = .ok (.iadd, 1) := by decide +kernel
theorem dX12_seenOf_48 : decode cX12_seenOf 48 = .ok (.iaload, 1) := by decide +kernel
theorem dX12_seenOf_49 : decode cX12_seenOf 49 = .ok (.iload_n 1, 1) := by decide +kernel
theorem dX12_seenOf_50 : decode cX12_seenOf 50 = .ok (.aload_n 0, 1) := by decide +kernel
theorem dX12_seenOf_51 : decode cX12_seenOf 51 = .ok (.getfield 7, 3) := by decide +kernel
theorem dX12_seenOf_54 : decode cX12_seenOf 54 = .ok (.iconst 1, 1) := by decide +kernel
theorem dX12_seenOf_55 : decode cX12_seenOf 55 = .ok (.iaload, 1) := by decide +kernel
theorem dX12_seenOf_56 : decode cX12_seenOf 56 = .ok (.idiv, 1) := by decide +kernel
theorem dX12_seenOf_57 : decode cX12_seenOf 57 = .ok (.iload_n 1, 1) := by decide +kernel
theorem dX12_seenOf_58 : decode cX12_seenOf 58 = .ok (.aload_n 0, 1) := by decide +kernel
theorem dX12_seenOf_59 : decode cX12_seenOf 59 = .ok (.getfield 7, 3) := by decide +kernel
theorem dX12_seenOf_62 : decode cX12_seenOf 62 = .ok (.iconst 1, 1) := by decide +kernel
theorem dX12_seenOf_63 : decode cX12_seenOf 63 = .ok (.iaload, 1) := by decide +kernel
theorem dX12_seenOf_64 : decode cX12_seenOf 64 = .ok (.irem, 1) := by decide +kernel
theorem dX12_seenOf_65 : decode cX12_seenOf 65 = .ok (.invokevirtual 131, 3) := by decide +kernel
theorem dX12_seenOf_68 : decode cX12_seenOf 68 = .ok (.istore_n 3, 1) := by decide +kernel
theorem dX12_seenOf_69 : decode cX12_seenOf 69 = .ok (.aload_n 0, 1) := by decide +kernel
theorem dX12_seenOf_70 : decode cX12_seenOf 70 = .ok (.getfield 25, 3) := by decide +kernel
