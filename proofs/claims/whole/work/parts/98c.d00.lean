theorem dX0_isA_0 : decode cX0_isA 0 = .ok (.iload_n 1, 1) := by decide +kernel
theorem dX0_isA_1 : decode cX0_isA 1 = .ok (.iconst 1, 1) := by decide +kernel
theorem dX0_isA_2 : decode cX0_isA 2 = .ok (.if_icmp .eq 11, 3) := by decide +kernel
theorem dX0_isA_5 : decode cX0_isA 5 = .ok (.aload_n 0, 1) := by decide +kernel
theorem dX0_isA_6 : decode cX0_isA 6 = .ok (.iload_n 1, 1) := by decide +kernel
theorem dX0_isA_7 : decode cX0_isA 7 = .ok (.invokespecial 7, 3) := by decide +kernel
theorem dX0_isA_10 : decode cX0_isA 10 = .ok (.ifCond .eq 7, 3) := by decide +kernel
theorem dX0_isA_13 : decode cX0_isA 13 = .ok (.iconst 1, 1) := by decide +kernel
theorem dX0_isA_14 : decode cX0_isA 14 = .ok (.goto 4, 3) := by decide +kernel
theorem dX0_isA_17 : decode cX0_isA 17 = .ok (.iconst 0, 1) := by decide +kernel
theorem dX0_isA_18 : decode cX0_isA 18 = .ok (.ireturn, 1) := by decide +kernel
theorem dX0_moves_0 : decode cX0_moves 0 = .ok (.iload_n 2, 1) := by decide +kernel
theorem dX0_moves_1 : decode cX0_moves 1 = .ok (.iconst 1, 1) := by decide +kernel
theorem dX0_moves_2 : decode cX0_moves 2 = .ok (.iadd, 1) := by decide +kernel
theorem dX0_moves_3 : decode cX0_moves 3 = .ok (.ireturn, 1) := by decide +kernel
theorem dX0_sayMoves_0 : decode cX0_sayMoves 0 = .ok (.aload_n 2, 1) := by decide +kernel
theorem dX0_sayMoves_1 : decode cX0_sayMoves 1 = .ok (.bipush 20, 2) := by decide +kernel
theorem dX0_sayMoves_3 : decode cX0_sayMoves 3 = .ok (.invokevirtual 11, 3) := by decide +kernel
theorem dX0_sayMoves_6 : decode cX0_sayMoves 6 = .ok (.aload_n 0, 1) := by decide +kernel
theorem dX0_sayMoves_7 : decode cX0_sayMoves 7 = .ok (.iload_n 1, 1) := by decide +kernel
theorem dX0_sayMoves_8 : decode cX0_sayMoves 8 = .ok (.aload_n 2, 1) := by decide +kernel
theorem dX0_sayMoves_9 : decode cX0_sayMoves 9 = .ok (.invokespecial 17, 3) := by decide +kernel
theorem dX0_sayMoves_12 : decode cX0_sayMoves 12 = .ok (.iconst 3, 1) := by decide +kernel
theorem dX0_sayMoves_13 : decode cX0_sayMoves 13 = .ok (.imul, 1) := by decide +kernel
theorem dX0_sayMoves_14 : decode cX0_sayMoves 14 = .ok (.ireturn, 1) := by decide +kernel
theorem dX1_isA_0 : decode cX1_isA 0 = .ok (.iload_n 1, 1) := by decide +kernel
theorem dX1_isA_1 : decode cX1_isA 1 = .ok (.bipush 6, 2) := by decide +kernel
theorem dX1_isA_3 : decode cX1_isA 3 = .ok (.if_icmp .eq 11, 3) := by decide +kernel
theorem dX1_isA_6 : decode cX1_isA 6 = .ok (.aload_n 0, 1) := by decide +kernel
theorem dX1_isA_7 : decode cX1_isA 7 = .ok (.iload_n 1, 1) := by decide +kernel
theorem dX1_isA_8 : decode cX1_isA 8 = .ok (.invokespecial 7, 3) := by decide +kernel
theorem dX1_isA_11 : decode cX1_isA 11 = .ok (.ifCond .eq 7, 3) := by decide +kernel
theorem dX1_isA_14 : decode cX1_isA 14 = .ok (.iconst 1, 1) := by decide +kernel
theorem dX1_isA_15 : decode cX1_isA 15 = .ok (.goto 4, 3) := by decide +kernel
theorem dX1_isA_18 : decode cX1_isA 18 = .ok (.iconst 0, 1) := by decide +kernel
theorem dX1_isA_19 : decode cX1_isA 19 = .ok (.ireturn, 1) := by decide +kernel
theorem dX1_moves_0 : decode cX1_moves 0 = .ok (.iconst 0, 1) := by decide +kernel
theorem dX1_moves_1 : decode cX1_moves 1 = .ok (.aload_n 0, 1) := by decide +kernel
theorem dX1_moves_2 : decode cX1_moves 2 = .ok (.iload_n 1, 1) := by decide +kernel
theorem dX1_moves_3 : decode cX1_moves 3 = .ok (.iload_n 2, 1) := by decide +kernel
theorem dX1_moves_4 : decode cX1_moves 4 = .ok (.iload_n 3, 1) := by decide +kernel
theorem dX1_moves_5 : decode cX1_moves 5 = .ok (.invokespecial 11, 3) := by decide +kernel
theorem dX1_moves_8 : decode cX1_moves 8 = .ok (.iload_n 3, 1) := by decide +kernel
theorem dX1_moves_9 : decode cX1_moves 9 = .ok (.isub, 1) := by decide +kernel
theorem dX1_moves_10 : decode cX1_moves 10 = .ok (.invokestatic 15, 3) := by decide +kernel
theorem dX1_moves_13 : decode cX1_moves 13 = .ok (.ireturn, 1) := by decide +kernel
theorem dX1_reach_0 : decode cX1_reach 0 = .ok (.aload_n 0, 1) := by decide +kernel
theorem dX1_reach_1 : decode cX1_reach 1 = .ok (.iload_n 1, 1) := by decide +kernel
theorem dX1_reach_2 : decode cX1_reach 2 = .ok (.invokespecial 21, 3) := by decide +kernel
theorem dX1_reach_5 : decode cX1_reach 5 = .ok (.iload_n 1, 1) := by decide +kernel
theorem dX1_reach_6 : decode cX1_reach 6 = .ok (.iconst 3, 1) := by decide +kernel
theorem dX1_reach_7 : decode cX1_reach 7 = .ok (.irem, 1) := by decide +kernel
theorem dX1_reach_8 : decode cX1_reach 8 = .ok (.iadd, 1) := by decide +kernel
theorem dX1_reach_9 : decode cX1_reach 9 = .ok (.ireturn, 1) := by decide +kernel
theorem dX1_tears_0 : decode cX1_tears 0 = .ok (.iload_n 1, 1) := by decide +kernel
theorem dX1_tears_1 : decode cX1_tears 1 = .ok (.bipush 7, 2) := by decide +kernel
theorem dX1_tears_3 : decode cX1_tears 3 = .ok (.if_icmp .le 7, 3) := by decide +kernel
theorem dX1_tears_6 : decode cX1_tears 6 = .ok (.iconst 1, 1) := by decide +kernel
theorem dX1_tears_7 : decode cX1_tears 7 = .ok (.goto 4, 3) := by decide +kernel
theorem dX1_tears_10 : decode cX1_tears 10 = .ok (.iconst 0, 1) := by decide +kernel
theorem dX1_tears_11 : decode cX1_tears 11 = .ok (.ireturn, 1) := by decide +kernel
theorem dX1_sayTears_0 : decode cX1_sayTears 0 = .ok (.aload_n 2, 1) := by decide +kernel
theorem dX1_sayTears_1 : decode cX1_sayTears 1 = .ok (.bipush 70, 2) := by decide +kernel
theorem dX1_sayTears_3 : decode cX1_sayTears 3 = .ok (.invokevirtual 25, 3) := by decide +kernel
theorem dX1_sayTears_6 : decode cX1_sayTears 6 = .ok (.aload_n 0, 1) := by decide +kernel
theorem dX1_sayTears_7 : decode cX1_sayTears 7 = .ok (.iload_n 1, 1) := by decide +kernel
theorem dX1_sayTears_8 : decode cX1_sayTears 8 = .ok (.aload_n 2, 1) := by decide +kernel
theorem dX1_sayTears_9 : decode cX1_sayTears 9 = .ok (.invokespecial 31, 3) := by decide +kernel
theorem dX1_sayTears_12 : decode cX1_sayTears 12 = .ok (.aload_n 2, 1) := by decide +kernel
theorem dX1_sayTears_13 : decode cX1_sayTears 13 = .ok (.getfield 35, 3) := by decide +kernel
theorem dX1_sayTears_16 : decode cX1_sayTears 16 = .ok (.ixor, 1) := by decide +kernel
theorem dX1_sayTears_17 : decode cX1_sayTears 17 = .ok (.ireturn, 1) := by decide +kernel
theorem dX1_sayTells_0 : decode cX1_sayTells 0 = .ok (.aload_n 2, 1) := by decide +kernel
theorem dX1_sayTells_1 : decode cX1_sayTells 1 = .ok (.bipush 71, 2) := by decide +kernel
theorem dX1_sayTells_3 : decode cX1_sayTells 3 = .ok (.invokevirtual 25, 3) := by decide +kernel
theorem dX1_sayTells_6 : decode cX1_sayTells 6 = .ok (.aload_n 0, 1) := by decide +kernel
theorem dX1_sayTells_7 : decode cX1_sayTells 7 = .ok (.iload_n 1, 1) := by decide +kernel
theorem dX1_sayTells_8 : decode cX1_sayTells 8 = .ok (.aload_n 2, 1) := by decide +kernel
theorem dX1_sayTells_9 : decode cX1_sayTells 9 = .ok (.invokevirtual 39, 3) := by decide +kernel
theorem dX1_sayTells_12 : decode cX1_sayTells 12 = .ok (.aload_n 0, 1) := by decide +kernel
theorem dX1_sayTells_13 : decode cX1_sayTells 13 = .ok (.iload_n 1, 1) := by decide +kernel
theorem dX1_sayTells_14 : decode cX1_sayTells 14 = .ok (.aload_n 2, 1) := by decide +kernel
theorem dX1_sayTells_15 : decode cX1_sayTells 15 = .ok (.invokespecial 44, 3) := by decide +kernel
theorem dX1_sayTells_18 : decode cX1_sayTells 18 = .ok (.isub, 1) := by decide +kernel
theorem dX1_sayTells_19 : decode cX1_sayTells 19 = .ok (.ireturn, 1) := by decide +kernel
theorem dX2_isA_0 : decode cX2_isA 0 = .ok (.iload_n 1, 1) := by decide +kernel
theorem dX2_isA_1 : decode cX2_isA 1 = .ok (.iconst 5, 1) := by decide +kernel
theorem dX2_isA_2 : decode cX2_isA 2 = .ok (.if_icmp .eq 11, 3) := by decide +kernel
theorem dX2_isA_5 : decode cX2_isA 5 = .ok (.aload_n 0, 1) := by decide +kernel
theorem dX2_isA_6 : decode cX2_isA 6 = .ok (.iload_n 1, 1) := by decide +kernel
theorem dX2_isA_7 : decode cX2_isA 7 = .ok (.invokespecial 7, 3) := by decide +kernel
theorem dX2_isA_10 : decode cX2_isA 10 = .ok (.ifCond .eq 7, 3) := by decide +kernel
theorem dX2_isA_13 : decode cX2_isA 13 = .ok (.iconst 1, 1) := by decide +kernel
theorem dX2_isA_14 : decode cX2_isA 14 = .ok (.goto 4, 3) := by decide +kernel
theorem dX2_isA_17 : decode cX2_isA 17 = .ok (.iconst 0, 1) := by decide +kernel
theorem dX2_isA_18 : decode cX2_isA 18 = .ok (.ireturn, 1) := by decide +kernel
theorem dX2_lets_0 : decode cX2_lets 0 = .ok (.iload_n 1, 1) := by decide +kernel
theorem dX2_lets_1 : decode cX2_lets 1 = .ok (.ireturn, 1) := by decide +kernel
theorem dX2_tears_0 : decode cX2_tears 0 = .ok (.aload_n 0, 1) := by decide +kernel
theorem dX2_tears_1 : decode cX2_tears 1 = .ok (.iload_n 1, 1) := by decide +kernel
theorem dX2_tears_2 : decode cX2_tears 2 = .ok (.invokespecial 11, 3) := by decide +kernel
theorem dX2_tears_5 : decode cX2_tears 5 = .ok (.iconst 1, 1) := by decide +kernel
theorem dX2_tears_6 : decode cX2_tears 6 = .ok (.iadd, 1) := by decide +kernel
theorem dX2_tears_7 : decode cX2_tears 7 = .ok (.ireturn, 1) := by decide +kernel
theorem dX2_sayLets_0 : decode cX2_sayLets 0 = .ok (.aload_n 2, 1) := by decide +kernel
theorem dX2_sayLets_1 : decode cX2_sayLets 1 = .ok (.bipush 60, 2) := by decide +kernel
theorem dX2_sayLets_3 : decode cX2_sayLets 3 = .ok (.invokevirtual 15, 3) := by decide +kernel
theorem dX2_sayLets_6 : decode cX2_sayLets 6 = .ok (.aload_n 0, 1) := by decide +kernel
theorem dX2_sayLets_7 : decode cX2_sayLets 7 = .ok (.iload_n 1, 1) := by decide +kernel
theorem dX2_sayLets_8 : decode cX2_sayLets 8 = .ok (.iconst 1, 1) := by decide +kernel
theorem dX2_sayLets_9 : decode cX2_sayLets 9 = .ok (.iadd, 1) := by decide +kernel
theorem dX2_sayLets_10 : decode cX2_sayLets 10 = .ok (.aload_n 2, 1) := by decide +kernel
theorem dX2_sayLets_11 : decode cX2_sayLets 11 = .ok (.invokespecial 21, 3) := by decide +kernel
theorem dX2_sayLets_14 : decode cX2_sayLets 14 = .ok (.ireturn, 1) := by decide +kernel
theorem dX3_copy_0 : decode cX3_copy 0 = .ok (.aload_n 0, 1) := by decide +kernel
theorem dX3_copy_1 : decode cX3_copy 1 = .ok (.aload_n 1, 1) := by decide +kernel
theorem dX3_copy_2 : decode cX3_copy 2 = .ok (.getfield 36, 3) := by decide +kernel
theorem dX3_copy_5 : decode cX3_copy 5 = .ok (.putfield 36, 3) := by decide +kernel
theorem dX3_copy_8 : decode cX3_copy 8 = .ok (.aload_n 1, 1) := by decide +kernel
theorem dX3_copy_9 : decode cX3_copy 9 = .ok (.getfield 9, 3) := by decide +kernel
theorem dX3_copy_12 : decode cX3_copy 12 = .ok (.iconst 0, 1) := by decide +kernel
theorem dX3_copy_13 : decode cX3_copy 13 = .ok (.aload_n 0, 1) := by decide +kernel
theorem dX3_copy_14 : decode cX3_copy 14 = .ok (.getfield 9, 3) := by decide +kernel
theorem dX3_copy_17 : decode cX3_copy 17 = .ok (.iconst 0, 1) := by decide +kernel
theorem dX3_copy_18 : decode cX3_copy 18 = .ok (.bipush 50, 2) := by decide +kernel
theorem dX3_copy_20 : decode cX3_copy 20 = .ok (.invokestatic 45, 3) := by decide +kernel
theorem dX3_copy_23 : decode cX3_copy 23 = .ok (.aload_n 0, 1) := by decide +kernel
theorem dX3_copy_24 : decode cX3_copy 24 = .ok (.dup, 1) := by decide +kernel
theorem dX3_copy_25 : decode cX3_copy 25 = .ok (.getfield 18, 3) := by decide +kernel
theorem dX3_copy_28 : decode cX3_copy 28 = .ok (.iconst 1, 1) := by decide +kernel
theorem dX3_copy_29 : decode cX3_copy 29 = .ok (.iadd, 1) := by decide +kernel
theorem dX3_copy_30 : decode cX3_copy 30 = .ok (.putfield 18, 3) := by decide +kernel
theorem dX3_copy_33 : decode cX3_copy 33 = .ok (.return_, 1) := by decide +kernel
theorem dX3_gives_0 : decode cX3_gives 0 = .ok (.aload_n 0, 1) := by decide +kernel
theorem dX3_gives_1 : decode cX3_gives 1 = .ok (.iload_n 1, 1) := by decide +kernel
theorem dX3_gives_2 : decode cX3_gives 2 = .ok (.iload_n 2, 1) := by decide +kernel
theorem dX3_gives_3 : decode cX3_gives 3 = .ok (.iload_n 3, 1) := by decide +kernel
theorem dX3_gives_4 : decode cX3_gives 4 = .ok (.invokevirtual 51, 3) := by decide +kernel
theorem dX3_gives_7 : decode cX3_gives 7 = .ok (.istore 4, 2) := by decide +kernel
theorem dX3_gives_9 : decode cX3_gives 9 = .ok (.iload 4, 2) := by decide +kernel
theorem dX3_gives_11 : decode cX3_gives 11 = .ok (.ifCond .lt 13, 3) := by decide +kernel
theorem dX3_gives_14 : decode cX3_gives 14 = .ok (.iload 4, 2) := by decide +kernel
theorem dX3_gives_16 : decode cX3_gives 16 = .ok (.aload_n 0, 1) := by decide +kernel
theorem dX3_gives_17 : decode cX3_gives 17 = .ok (.getfield 42, 3) := by decide +kernel
theorem dX3_gives_20 : decode cX3_gives 20 = .ok (.arraylength, 1) := by decide +kernel
theorem dX3_gives_21 : decode cX3_gives 21 = .ok (.if_icmp .lt 11, 3) := by decide +kernel
theorem dX3_gives_24 : decode cX3_gives 24 = .ok (.aload_n 0, 1) := by decide +kernel
theorem dX3_gives_25 : decode cX3_gives 25 = .ok (.iload_n 1, 1) := by decide +kernel
theorem dX3_gives_26 : decode cX3_gives 26 = .ok (.iload_n 2, 1) := by decide +kernel
theorem dX3_gives_27 : decode cX3_gives 27 = .ok (.iload_n 3, 1) := by decide +kernel
theorem dX3_gives_28 : decode cX3_gives 28 = .ok (.invokevirtual 55, 3) := by decide +kernel
theorem dX3_gives_31 : decode cX3_gives 31 = .ok (.ireturn, 1) := by decide +kernel
theorem dX3_gives_32 : decode cX3_gives 32 = .ok (.aload_n 0, 1) := by decide +kernel
theorem dX3_gives_33 : decode cX3_gives 33 = .ok (.getfield 42, 3) := by decide +kernel
theorem dX3_gives_36 : decode cX3_gives 36 = .ok (.iload 4, 2) := by decide +kernel
theorem dX3_gives_38 : decode cX3_gives 38 = .ok (.iaload, 1) := by decide +kernel
theorem dX3_gives_39 : decode cX3_gives 39 = .ok (.sipush 128, 3) := by decide +kernel
theorem dX3_gives_42 : decode cX3_gives 42 = .ok (.idiv, 1) := by decide +kernel
theorem dX3_gives_43 : decode cX3_gives 43 = .ok (.aload_n 0, 1) := by decide +kernel
theorem dX3_gives_44 : decode cX3_gives 44 = .ok (.getfield 18, 3) := by decide +kernel
theorem dX3_gives_47 : decode cX3_gives 47 = .ok (.if_icmp .eq 26, 3) := by decide +kernel
theorem dX3_gives_50 : decode cX3_gives 50 = .ok (.aload_n 0, 1) := by decide +kernel
theorem dX3_gives_51 : decode cX3_gives 51 = .ok (.getfield 42, 3) := by decide +kernel
theorem dX3_gives_54 : decode cX3_gives 54 = .ok (.iload 4, 2) := by decide +kernel
theorem dX3_gives_56 : decode cX3_gives 56 = .ok (.aload_n 0, 1) := by decide +kernel
theorem dX3_gives_57 : decode cX3_gives 57 = .ok (.getfield 18, 3) := by decide +kernel
theorem dX3_gives_60 : decode cX3_gives 60 = .ok (.sipush 128, 3) := by decide +kernel
theorem dX3_gives_63 : decode cX3_gives 63 = .ok (.imul, 1) := by decide +kernel
theorem dX3_gives_64 : decode cX3_gives 64 = .ok (.aload_n 0, 1) := by decide +kernel
theorem dX3_gives_65 : decode cX3_gives 65 = .ok (.iload_n 1, 1) := by decide +kernel
theorem dX3_gives_66 : decode cX3_gives 66 = .ok (.iload_n 2, 1) := by decide +kernel
theorem dX3_gives_67 : decode cX3_gives 67 = .ok (.iload_n 3, 1) := by decide +kernel
theorem dX3_gives_68 : decode cX3_gives 68 = .ok (.invokevirtual 55, 3) := by decide +kernel
theorem dX3_gives_71 : decode cX3_gives 71 = .ok (.iadd, 1) := by decide +kernel
theorem dX3_gives_72 : decode cX3_gives 72 = .ok (.iastore, 1) := by decide +kernel
theorem dX3_gives_73 : decode cX3_gives 73 = .ok (.aload_n 0, 1) := by decide +kernel
theorem dX3_gives_74 : decode cX3_gives 74 = .ok (.getfield 42, 3) := by decide +kernel
theorem dX3_gives_77 : decode cX3_gives 77 = .ok (.iload 4, 2) := by decide +kernel
theorem dX3_gives_79 : decode cX3_gives 79 = .ok (.iaload, 1) := by decide +kernel
theorem dX3_gives_80 : decode cX3_gives 80 = .ok (.sipush 128, 3) := by decide +kernel
theorem dX3_gives_83 : decode cX3_gives 83 = .ok (.irem, 1) := by decide +kernel
theorem dX3_gives_84 : decode cX3_gives 84 = .ok (.ireturn, 1) := by decide +kernel
theorem dX3_placeOf_0 : decode cX3_placeOf 0 = .ok (.iload_n 1, 1) := by decide +kernel
theorem dX3_placeOf_1 : decode cX3_placeOf 1 = .ok (.iconst 0, 1) := by decide +kernel
theorem dX3_placeOf_2 : decode cX3_placeOf 2 = .ok (.bipush 99, 2) := by decide +kernel
theorem dX3_placeOf_4 : decode cX3_placeOf 4 = .ok (.invokestatic 58, 3) := by decide +kernel
theorem dX3_placeOf_7 : decode cX3_placeOf 7 = .ok (.ifCond .eq 31, 3) := by decide +kernel
theorem dX3_placeOf_10 : decode cX3_placeOf 10 = .ok (.iload_n 2, 1) := by decide +kernel
theorem dX3_placeOf_11 : decode cX3_placeOf 11 = .ok (.iconst 0, 1) := by decide +kernel
theorem dX3_placeOf_12 : decode cX3_placeOf 12 = .ok (.aload_n 0, 1) := by decide +kernel
theorem dX3_placeOf_13 : decode cX3_placeOf 13 = .ok (.getfield 39, 3) := by decide +kernel
theorem dX3_placeOf_16 : decode cX3_placeOf 16 = .ok (.iconst 1, 1) := by decide +kernel
theorem dX3_placeOf_17 : decode cX3_placeOf 17 = .ok (.isub, 1) := by decide +kernel
theorem dX3_placeOf_18 : decode cX3_placeOf 18 = .ok (.invokestatic 58, 3) := by decide +kernel
theorem dX3_placeOf_21 : decode cX3_placeOf 21 = .ok (.ifCond .eq 17, 3) := by decide +kernel
theorem dX3_placeOf_24 : decode cX3_placeOf 24 = .ok (.iload_n 3, 1) := by decide +kernel
theorem dX3_placeOf_25 : decode cX3_placeOf 25 = .ok (.iconst 0, 1) := by decide +kernel
theorem dX3_placeOf_26 : decode cX3_placeOf 26 = .ok (.aload_n 0, 1) := by decide +kernel
theorem dX3_placeOf_27 : decode cX3_placeOf 27 = .ok (.getfield 39, 3) := by decide +kernel
theorem dX3_placeOf_30 : decode cX3_placeOf 30 = .ok (.iconst 1, 1) := by decide +kernel
theorem dX3_placeOf_31 : decode cX3_placeOf 31 = .ok (.isub, 1) := by decide +kernel
theorem dX3_placeOf_32 : decode cX3_placeOf 32 = .ok (.invokestatic 58, 3) := by decide +kernel
theorem dX3_placeOf_35 : decode cX3_placeOf 35 = .ok (.ifCond .ne 5, 3) := by decide +kernel
theorem dX3_placeOf_38 : decode cX3_placeOf 38 = .ok (.iconst (-1), 1) := by decide +kernel
theorem dX3_placeOf_39 : decode cX3_placeOf 39 = .ok (.ireturn, 1) := by decide +kernel
theorem dX3_placeOf_40 : decode cX3_placeOf 40 = .ok (.iload_n 1, 1) := by decide +kernel
theorem dX3_placeOf_41 : decode cX3_placeOf 41 = .ok (.aload_n 0, 1) := by decide +kernel
theorem dX3_placeOf_42 : decode cX3_placeOf 42 = .ok (.getfield 39, 3) := by decide +kernel
theorem dX3_placeOf_45 : decode cX3_placeOf 45 = .ok (.imul, 1) := by decide +kernel
theorem dX3_placeOf_46 : decode cX3_placeOf 46 = .ok (.iload_n 2, 1) := by decide +kernel
theorem dX3_placeOf_47 : decode cX3_placeOf 47 = .ok (.iadd, 1) := by decide +kernel
theorem dX3_placeOf_48 : decode cX3_placeOf 48 = .ok (.aload_n 0, 1) := by decide +kernel
theorem dX3_placeOf_49 : decode cX3_placeOf 49 = .ok (.getfield 39, 3) := by decide +kernel
theorem dX3_placeOf_52 : decode cX3_placeOf 52 = .ok (.imul, 1) := by decide +kernel
theorem dX3_placeOf_53 : decode cX3_placeOf 53 = .ok (.iload_n 3, 1) := by decide +kernel
theorem dX3_placeOf_54 : decode cX3_placeOf 54 = .ok (.iadd, 1) := by decide +kernel
theorem dX3_placeOf_55 : decode cX3_placeOf 55 = .ok (.ireturn, 1) := by decide +kernel
theorem dX3_worksOut_0 : decode cX3_worksOut 0 = .ok (.iconst 0, 1) := by decide +kernel
theorem dX3_worksOut_1 : decode cX3_worksOut 1 = .ok (.istore 4, 2) := by decide +kernel
theorem dX3_worksOut_3 : decode cX3_worksOut 3 = .ok (.iconst 0, 1) := by decide +kernel
theorem dX3_worksOut_4 : decode cX3_worksOut 4 = .ok (.istore 5, 2) := by decide +kernel
theorem dX3_worksOut_6 : decode cX3_worksOut 6 = .ok (.iload 5, 2) := by decide +kernel
theorem dX3_worksOut_8 : decode cX3_worksOut 8 = .ok (.aload_n 0, 1) := by decide +kernel
theorem dX3_worksOut_9 : decode cX3_worksOut 9 = .ok (.getfield 36, 3) := by decide +kernel
theorem dX3_worksOut_12 : decode cX3_worksOut 12 = .ok (.if_icmp .ge 151, 3) := by decide +kernel
theorem dX3_worksOut_15 : decode cX3_worksOut 15 = .ok (.iload 5, 2) := by decide +kernel
theorem dX3_worksOut_17 : decode cX3_worksOut 17 = .ok (.bipush 50, 2) := by decide +kernel
theorem dX3_worksOut_19 : decode cX3_worksOut 19 = .ok (.if_icmp .ge 144, 3) := by decide +kernel
theorem dX3_worksOut_22 : decode cX3_worksOut 22 = .ok (.aload_n 0, 1) := by decide +kernel
theorem dX3_worksOut_23 : decode cX3_worksOut 23 = .ok (.getfield 9, 3) := by decide +kernel
theorem dX3_worksOut_26 : decode cX3_worksOut 26 = .ok (.iload 5, 2) := by decide +kernel
theorem dX3_worksOut_28 : decode cX3_worksOut 28 = .ok (.iaload, 1) := by decide +kernel
theorem dX3_worksOut_29 : decode cX3_worksOut 29 = .ok (.istore 6, 2) := by decide +kernel
theorem dX3_worksOut_31 : decode cX3_worksOut 31 = .ok (.iload 6, 2) := by decide +kernel
theorem dX3_worksOut_33 : decode cX3_worksOut 33 = .ok (.bipush (-3), 2) := by decide +kernel
theorem dX3_worksOut_35 : decode cX3_worksOut 35 = .ok (.if_icmp .lt 41, 3) := by decide +kernel
theorem dX3_worksOut_38 : decode cX3_worksOut 38 = .ok (.iload 4, 2) := by decide +kernel
theorem dX3_worksOut_40 : decode cX3_worksOut 40 = .ok (.bipush 50, 2) := by decide +kernel
theorem dX3_worksOut_42 : decode cX3_worksOut 42 = .ok (.if_icmp .ge 34, 3) := by decide +kernel
theorem dX3_worksOut_45 : decode cX3_worksOut 45 = .ok (.aload_n 0, 1) := by decide +kernel
theorem dX3_worksOut_46 : decode cX3_worksOut 46 = .ok (.getfield 15, 3) := by decide +kernel
theorem dX3_worksOut_49 : decode cX3_worksOut 49 = .ok (.iload 4, 2) := by decide +kernel
theorem dX3_worksOut_51 : decode cX3_worksOut 51 = .ok (.iload 6, 2) := by decide +kernel
theorem dX3_worksOut_53 : decode cX3_worksOut 53 = .ok (.ifCond .lt 8, 3) := by decide +kernel
theorem dX3_worksOut_56 : decode cX3_worksOut 56 = .ok (.iload 6, 2) := by decide +kernel
theorem dX3_worksOut_58 : decode cX3_worksOut 58 = .ok (.goto 11, 3) := by decide +kernel
theorem dX3_worksOut_61 : decode cX3_worksOut 61 = .ok (.iload 6, 2) := by decide +kernel
theorem dX3_worksOut_63 : decode cX3_worksOut 63 = .ok (.iload_n 1, 1) := by decide +kernel
theorem dX3_worksOut_64 : decode cX3_worksOut 64 = .ok (.iload_n 2, 1) := by decide +kernel
theorem dX3_worksOut_65 : decode cX3_worksOut 65 = .ok (.iload_n 3, 1) := by decide +kernel
theorem dX3_worksOut_66 : decode cX3_worksOut 66 = .ok (.invokestatic 62, 3) := by decide +kernel
theorem dX3_worksOut_69 : decode cX3_worksOut 69 = .ok (.iastore, 1) := by decide +kernel
theorem dX3_worksOut_70 : decode cX3_worksOut 70 = .ok (.iinc 4 1, 3) := by decide +kernel
theorem dX3_worksOut_73 : decode cX3_worksOut 73 = .ok (.goto 84, 3) := by decide +kernel
theorem dX3_worksOut_76 : decode cX3_worksOut 76 = .ok (.iload 6, 2) := by decide +kernel
theorem dX3_worksOut_78 : decode cX3_worksOut 78 = .ok (.bipush (-33), 2) := by decide +kernel
theorem dX3_worksOut_80 : decode cX3_worksOut 80 = .ok (.if_icmp .ne 37, 3) := by decide +kernel
theorem dX3_worksOut_83 : decode cX3_worksOut 83 = .ok (.iload 4, 2) := by decide +kernel
theorem dX3_worksOut_85 : decode cX3_worksOut 85 = .ok (.ifCond .le 32, 3) := by decide +kernel
theorem dX3_worksOut_88 : decode cX3_worksOut 88 = .ok (.aload_n 0, 1) := by decide +kernel
theorem dX3_worksOut_89 : decode cX3_worksOut 89 = .ok (.getfield 15, 3) := by decide +kernel
theorem dX3_worksOut_92 : decode cX3_worksOut 92 = .ok (.iload 4, 2) := by decide +kernel
theorem dX3_worksOut_94 : decode cX3_worksOut 94 = .ok (.iconst 1, 1) := by decide +kernel
theorem dX3_worksOut_95 : decode cX3_worksOut 95 = .ok (.isub, 1) := by decide +kernel
theorem dX3_worksOut_96 : decode cX3_worksOut 96 = .ok (.aload_n 0, 1) := by decide +kernel
theorem dX3_worksOut_97 : decode cX3_worksOut 97 = .ok (.getfield 15, 3) := by decide +kernel
theorem dX3_worksOut_100 : decode cX3_worksOut 100 = .ok (.iload 4, 2) := by decide +kernel
theorem dX3_worksOut_102 : decode cX3_worksOut 102 = .ok (.iconst 1, 1) := by decide +kernel
theorem dX3_worksOut_103 : decode cX3_worksOut 103 = .ok (.isub, 1) := by decide +kernel
theorem dX3_worksOut_104 : decode cX3_worksOut 104 = .ok (.iaload, 1) := by decide +kernel
theorem dX3_worksOut_105 : decode cX3_worksOut 105 = .ok (.ifCond .ne 7, 3) := by decide +kernel
theorem dX3_worksOut_108 : decode cX3_worksOut 108 = .ok (.iconst 1, 1) := by decide +kernel
theorem dX3_worksOut_109 : decode cX3_worksOut 109 = .ok (.goto 4, 3) := by decide +kernel
theorem dX3_worksOut_112 : decode cX3_worksOut 112 = .ok (.iconst 0, 1) := by decide +kernel
theorem dX3_worksOut_113 : decode cX3_worksOut 113 = .ok (.iastore, 1) := by decide +kernel
theorem dX3_worksOut_114 : decode cX3_worksOut 114 = .ok (.goto 43, 3) := by decide +kernel
theorem dX3_worksOut_117 : decode cX3_worksOut 117 = .ok (.iload 4, 2) := by decide +kernel
theorem dX3_worksOut_119 : decode cX3_worksOut 119 = .ok (.iconst 1, 1) := by decide +kernel
theorem dX3_worksOut_120 : decode cX3_worksOut 120 = .ok (.if_icmp .le 37, 3) := by decide +kernel
theorem dX3_worksOut_123 : decode cX3_worksOut 123 = .ok (.iinc 4 (-1), 3) := by decide +kernel
theorem dX3_worksOut_126 : decode cX3_worksOut 126 = .ok (.aload_n 0, 1) := by decide +kernel
theorem dX3_worksOut_127 : decode cX3_worksOut 127 = .ok (.getfield 15, 3) := by decide +kernel
theorem dX3_worksOut_130 : decode cX3_worksOut 130 = .ok (.iload 4, 2) := by decide +kernel
theorem dX3_worksOut_132 : decode cX3_worksOut 132 = .ok (.iconst 1, 1) := by decide +kernel
theorem dX3_worksOut_133 : decode cX3_worksOut 133 = .ok (.isub, 1) := by decide +kernel
theorem dX3_worksOut_134 : decode cX3_worksOut 134 = .ok (.iload 6, 2) := by decide +kernel
theorem dX3_worksOut_136 : decode cX3_worksOut 136 = .ok (.ineg, 1) := by decide +kernel
theorem dX3_worksOut_137 : decode cX3_worksOut 137 = .ok (.aload_n 0, 1) := by decide +kernel
theorem dX3_worksOut_138 : decode cX3_worksOut 138 = .ok (.getfield 15, 3) := by decide +kernel
theorem dX3_worksOut_141 : decode cX3_worksOut 141 = .ok (.iload 4, 2) := by decide +kernel
theorem dX3_worksOut_143 : decode cX3_worksOut 143 = .ok (.iconst 1, 1) := by decide +kernel
theorem dX3_worksOut_144 : decode cX3_worksOut 144 = .ok (.isub, 1) := by decide +kernel
theorem dX3_worksOut_145 : decode cX3_worksOut 145 = .ok (.iaload, 1) := by decide +kernel
theorem dX3_worksOut_146 : decode cX3_worksOut 146 = .ok (.aload_n 0, 1) := by decide +kernel
theorem dX3_worksOut_147 : decode cX3_worksOut 147 = .ok (.getfield 15, 3) := by decide +kernel
theorem dX3_worksOut_150 : decode cX3_worksOut 150 = .ok (.iload 4, 2) := by decide +kernel
theorem dX3_worksOut_152 : decode cX3_worksOut 152 = .ok (.iaload, 1) := by decide +kernel
theorem dX3_worksOut_153 : decode cX3_worksOut 153 = .ok (.invokestatic 66, 3) := by decide +kernel
theorem dX3_worksOut_156 : decode cX3_worksOut 156 = .ok (.iastore, 1) := by decide +kernel
theorem dX3_worksOut_157 : decode cX3_worksOut 157 = .ok (.iinc 5 1, 3) := by decide +kernel
theorem dX3_worksOut_160 : decode cX3_worksOut 160 = .ok (.goto (-154), 3) := by decide +kernel
theorem dX3_worksOut_163 : decode cX3_worksOut 163 = .ok (.iconst 0, 1) := by decide +kernel
theorem dX3_worksOut_164 : decode cX3_worksOut 164 = .ok (.bipush 99, 2) := by decide +kernel
theorem dX3_worksOut_166 : decode cX3_worksOut 166 = .ok (.aload_n 0, 1) := by decide +kernel
theorem dX3_worksOut_167 : decode cX3_worksOut 167 = .ok (.getfield 15, 3) := by decide +kernel
theorem dX3_worksOut_170 : decode cX3_worksOut 170 = .ok (.iconst 0, 1) := by decide +kernel
theorem dX3_worksOut_171 : decode cX3_worksOut 171 = .ok (.iaload, 1) := by decide +kernel
theorem dX3_worksOut_172 : decode cX3_worksOut 172 = .ok (.invokestatic 69, 3) := by decide +kernel
theorem dX3_worksOut_175 : decode cX3_worksOut 175 = .ok (.invokestatic 75, 3) := by decide +kernel
theorem dX3_worksOut_178 : decode cX3_worksOut 178 = .ok (.ireturn, 1) := by decide +kernel
theorem dX3_named_0 : decode cX3_named 0 = .ok (.iload_n 0, 1) := by decide +kernel
theorem dX3_named_1 : decode cX3_named 1 = .ok (.iconst (-1), 1) := by decide +kernel
theorem dX3_named_2 : decode cX3_named 2 = .ok (.if_icmp .ne 5, 3) := by decide +kernel
theorem dX3_named_5 : decode cX3_named 5 = .ok (.iload_n 1, 1) := by decide +kernel
theorem dX3_named_6 : decode cX3_named 6 = .ok (.ireturn, 1) := by decide +kernel
theorem dX3_named_7 : decode cX3_named 7 = .ok (.iload_n 0, 1) := by decide +kernel
theorem dX3_named_8 : decode cX3_named 8 = .ok (.bipush (-2), 2) := by decide +kernel
theorem dX3_named_10 : decode cX3_named 10 = .ok (.if_icmp .ne 7, 3) := by decide +kernel
theorem dX3_named_13 : decode cX3_named 13 = .ok (.iload_n 2, 1) := by decide +kernel
theorem dX3_named_14 : decode cX3_named 14 = .ok (.goto 4, 3) := by decide +kernel
theorem dX3_named_17 : decode cX3_named 17 = .ok (.iload_n 3, 1) := by decide +kernel
theorem dX3_named_18 : decode cX3_named 18 = .ok (.ireturn, 1) := by decide +kernel
theorem dX3_joined_0 : decode cX3_joined 0 = .ok (.iload_n 0, 1) := by decide +kernel
theorem dX3_joined_1 : decode cX3_joined 1 = .ok (.tableswitch 202 37 62 #[143, 188, 202, 202, 202, 127, 119, 202, 123, 202, 131, 202, 202, 202, 202, 202, 202, 202, 202, 202, 202, 202, 202, 155, 166, 177], 119) := by decide +kernel
theorem dX3_joined_120 : decode cX3_joined 120 = .ok (.iload_n 1, 1) := by decide +kernel
theorem dX3_joined_121 : decode cX3_joined 121 = .ok (.iload_n 2, 1) := by decide +kernel
theorem dX3_joined_122 : decode cX3_joined 122 = .ok (.iadd, 1) := by decide +kernel
theorem dX3_joined_123 : decode cX3_joined 123 = .ok (.ireturn, 1) := by decide +kernel
theorem dX3_joined_124 : decode cX3_joined 124 = .ok (.iload_n 1, 1) := by decide +kernel
theorem dX3_joined_125 : decode cX3_joined 125 = .ok (.iload_n 2, 1) := by decide +kernel
theorem dX3_joined_126 : decode cX3_joined 126 = .ok (.isub, 1) := by decide +kernel
theorem dX3_joined_127 : decode cX3_joined 127 = .ok (.ireturn, 1) := by decide +kernel
theorem dX3_joined_128 : decode cX3_joined 128 = .ok (.iload_n 1, 1) := by decide +kernel
theorem dX3_joined_129 : decode cX3_joined 129 = .ok (.iload_n 2, 1) := by decide +kernel
theorem dX3_joined_130 : decode cX3_joined 130 = .ok (.imul, 1) := by decide +kernel
theorem dX3_joined_131 : decode cX3_joined 131 = .ok (.ireturn, 1) := by decide +kernel
theorem dX3_joined_132 : decode cX3_joined 132 = .ok (.iload_n 2, 1) := by decide +kernel
theorem dX3_joined_133 : decode cX3_joined 133 = .ok (.ifCond .ne 7, 3) := by decide +kernel
theorem dX3_joined_136 : decode cX3_joined 136 = .ok (.iconst 0, 1) := by decide +kernel
theorem dX3_joined_137 : decode cX3_joined 137 = .ok (.goto 6, 3) := by decide +kernel
theorem dX3_joined_140 : decode cX3_joined 140 = .ok (.iload_n 1, 1) := by decide +kernel
theorem dX3_joined_141 : decode cX3_joined 141 = .ok (.iload_n 2, 1) := by decide +kernel
theorem dX3_joined_142 : decode cX3_joined 142 = .ok (.idiv, 1) := by decide +kernel
theorem dX3_joined_143 : decode cX3_joined 143 = .ok (.ireturn, 1) := by decide +kernel
theorem dX3_joined_144 : decode cX3_joined 144 = .ok (.iload_n 2, 1) := by decide +kernel
theorem dX3_joined_145 : decode cX3_joined 145 = .ok (.ifCond .ne 7, 3) := by decide +kernel
theorem dX3_joined_148 : decode cX3_joined 148 = .ok (.iconst 0, 1) := by decide +kernel
theorem dX3_joined_149 : decode cX3_joined 149 = .ok (.goto 6, 3) := by decide +kernel
theorem dX3_joined_152 : decode cX3_joined 152 = .ok (.iload_n 1, 1) := by decide +kernel
theorem dX3_joined_153 : decode cX3_joined 153 = .ok (.iload_n 2, 1) := by decide +kernel
theorem dX3_joined_154 : decode cX3_joined 154 = .ok (.irem, 1) := by decide +kernel
theorem dX3_joined_155 : decode cX3_joined 155 = .ok (.ireturn, 1) := by decide +kernel
theorem dX3_joined_156 : decode cX3_joined 156 = .ok (.iload_n 1, 1) := by decide +kernel
theorem dX3_joined_157 : decode cX3_joined 157 = .ok (.iload_n 2, 1) := by decide +kernel
theorem dX3_joined_158 : decode cX3_joined 158 = .ok (.if_icmp .ge 7, 3) := by decide +kernel
theorem dX3_joined_161 : decode cX3_joined 161 = .ok (.iconst 1, 1) := by decide +kernel
theorem dX3_joined_162 : decode cX3_joined 162 = .ok (.goto 4, 3) := by decide +kernel
theorem dX3_joined_165 : decode cX3_joined 165 = .ok (.iconst 0, 1) := by decide +kernel
theorem dX3_joined_166 : decode cX3_joined 166 = .ok (.ireturn, 1) := by decide +kernel
theorem dX3_joined_167 : decode cX3_joined 167 = .ok (.iload_n 1, 1) := by decide +kernel
theorem dX3_joined_168 : decode cX3_joined 168 = .ok (.iload_n 2, 1) := by decide +kernel
theorem dX3_joined_169 : decode cX3_joined 169 = .ok (.if_icmp .ne 7, 3) := by decide +kernel
theorem dX3_joined_172 : decode cX3_joined 172 = .ok (.iconst 1, 1) := by decide +kernel
theorem dX3_joined_173 : decode cX3_joined 173 = .ok (.goto 4, 3) := by decide +kernel
theorem dX3_joined_176 : decode cX3_joined 176 = .ok (.iconst 0, 1) := by decide +kernel
theorem dX3_joined_177 : decode cX3_joined 177 = .ok (.ireturn, 1) := by decide +kernel
theorem dX3_joined_178 : decode cX3_joined 178 = .ok (.iload_n 1, 1) := by decide +kernel
theorem dX3_joined_179 : decode cX3_joined 179 = .ok (.iload_n 2, 1) := by decide +kernel
theorem dX3_joined_180 : decode cX3_joined 180 = .ok (.if_icmp .le 7, 3) := by decide +kernel
theorem dX3_joined_183 : decode cX3_joined 183 = .ok (.iconst 1, 1) := by decide +kernel
theorem dX3_joined_184 : decode cX3_joined 184 = .ok (.goto 4, 3) := by decide +kernel
theorem dX3_joined_187 : decode cX3_joined 187 = .ok (.iconst 0, 1) := by decide +kernel
theorem dX3_joined_188 : decode cX3_joined 188 = .ok (.ireturn, 1) := by decide +kernel
theorem dX3_joined_189 : decode cX3_joined 189 = .ok (.iload_n 1, 1) := by decide +kernel
theorem dX3_joined_190 : decode cX3_joined 190 = .ok (.ifCond .eq 11, 3) := by decide +kernel
theorem dX3_joined_193 : decode cX3_joined 193 = .ok (.iload_n 2, 1) := by decide +kernel
theorem dX3_joined_194 : decode cX3_joined 194 = .ok (.ifCond .eq 7, 3) := by decide +kernel
theorem dX3_joined_197 : decode cX3_joined 197 = .ok (.iconst 1, 1) := by decide +kernel
theorem dX3_joined_198 : decode cX3_joined 198 = .ok (.goto 4, 3) := by decide +kernel
theorem dX3_joined_201 : decode cX3_joined 201 = .ok (.iconst 0, 1) := by decide +kernel
theorem dX3_joined_202 : decode cX3_joined 202 = .ok (.ireturn, 1) := by decide +kernel
theorem dX3_joined_203 : decode cX3_joined 203 = .ok (.iload_n 1, 1) := by decide +kernel
theorem dX3_joined_204 : decode cX3_joined 204 = .ok (.ifCond .ne 7, 3) := by decide +kernel
theorem dX3_joined_207 : decode cX3_joined 207 = .ok (.iload_n 2, 1) := by decide +kernel
theorem dX3_joined_208 : decode cX3_joined 208 = .ok (.ifCond .eq 7, 3) := by decide +kernel
theorem dX3_joined_211 : decode cX3_joined 211 = .ok (.iconst 1, 1) := by decide +kernel
theorem dX3_joined_212 : decode cX3_joined 212 = .ok (.goto 4, 3) := by decide +kernel
theorem dX3_joined_215 : decode cX3_joined 215 = .ok (.iconst 0, 1) := by decide +kernel
theorem dX3_joined_216 : decode cX3_joined 216 = .ok (.ireturn, 1) := by decide +kernel
theorem dX3_read_0 : decode cX3_read 0 = .ok (.aload_n 0, 1) := by decide +kernel
theorem dX3_read_1 : decode cX3_read 1 = .ok (.iconst 0, 1) := by decide +kernel
theorem dX3_read_2 : decode cX3_read 2 = .ok (.putfield 78, 3) := by decide +kernel
theorem dX3_read_5 : decode cX3_read 5 = .ok (.aload_n 0, 1) := by decide +kernel
theorem dX3_read_6 : decode cX3_read 6 = .ok (.iconst 0, 1) := by decide +kernel
theorem dX3_read_7 : decode cX3_read 7 = .ok (.putfield 81, 3) := by decide +kernel
theorem dX3_read_10 : decode cX3_read 10 = .ok (.aload_n 0, 1) := by decide +kernel
theorem dX3_read_11 : decode cX3_read 11 = .ok (.iconst 0, 1) := by decide +kernel
theorem dX3_read_12 : decode cX3_read 12 = .ok (.putfield 84, 3) := by decide +kernel
theorem dX3_read_15 : decode cX3_read 15 = .ok (.aload_n 0, 1) := by decide +kernel
theorem dX3_read_16 : decode cX3_read 16 = .ok (.iconst 0, 1) := by decide +kernel
theorem dX3_read_17 : decode cX3_read 17 = .ok (.putfield 87, 3) := by decide +kernel
theorem dX3_read_20 : decode cX3_read 20 = .ok (.aload_n 0, 1) := by decide +kernel
theorem dX3_read_21 : decode cX3_read 21 = .ok (.iconst 1, 1) := by decide +kernel
theorem dX3_read_22 : decode cX3_read 22 = .ok (.putfield 90, 3) := by decide +kernel
theorem dX3_read_25 : decode cX3_read 25 = .ok (.iconst 0, 1) := by decide +kernel
theorem dX3_read_26 : decode cX3_read 26 = .ok (.istore_n 3, 1) := by decide +kernel
theorem dX3_read_27 : decode cX3_read 27 = .ok (.iload_n 3, 1) := by decide +kernel
theorem dX3_read_28 : decode cX3_read 28 = .ok (.iload_n 2, 1) := by decide +kernel
theorem dX3_read_29 : decode cX3_read 29 = .ok (.if_icmp .ge 48, 3) := by decide +kernel
theorem dX3_read_32 : decode cX3_read 32 = .ok (.iload_n 3, 1) := by decide +kernel
theorem dX3_read_33 : decode cX3_read 33 = .ok (.aload_n 1, 1) := by decide +kernel
theorem dX3_read_34 : decode cX3_read 34 = .ok (.arraylength, 1) := by decide +kernel
theorem dX3_read_35 : decode cX3_read 35 = .ok (.if_icmp .ge 42, 3) := by decide +kernel
theorem dX3_read_38 : decode cX3_read 38 = .ok (.aload_n 0, 1) := by decide +kernel
theorem dX3_read_39 : decode cX3_read 39 = .ok (.getfield 90, 3) := by decide +kernel
theorem dX3_read_42 : decode cX3_read 42 = .ok (.ifCond .eq 13, 3) := by decide +kernel
theorem dX3_read_45 : decode cX3_read 45 = .ok (.aload_n 0, 1) := by decide +kernel
theorem dX3_read_46 : decode cX3_read 46 = .ok (.aload_n 1, 1) := by decide +kernel
theorem dX3_read_47 : decode cX3_read 47 = .ok (.iload_n 3, 1) := by decide +kernel
theorem dX3_read_48 : decode cX3_read 48 = .ok (.iaload, 1) := by decide +kernel
theorem dX3_read_49 : decode cX3_read 49 = .ok (.invokevirtual 94, 3) := by decide +kernel
theorem dX3_read_52 : decode cX3_read 52 = .ok (.goto 10, 3) := by decide +kernel
theorem dX3_read_55 : decode cX3_read 55 = .ok (.aload_n 0, 1) := by decide +kernel
theorem dX3_read_56 : decode cX3_read 56 = .ok (.aload_n 1, 1) := by decide +kernel
theorem dX3_read_57 : decode cX3_read 57 = .ok (.iload_n 3, 1) := by decide +kernel
theorem dX3_read_58 : decode cX3_read 58 = .ok (.iaload, 1) := by decide +kernel
theorem dX3_read_59 : decode cX3_read 59 = .ok (.invokevirtual 98, 3) := by decide +kernel
theorem dX3_read_62 : decode cX3_read 62 = .ok (.istore 4, 2) := by decide +kernel
theorem dX3_read_64 : decode cX3_read 64 = .ok (.iload 4, 2) := by decide +kernel
theorem dX3_read_66 : decode cX3_read 66 = .ok (.ifCond .ne 5, 3) := by decide +kernel
theorem dX3_read_69 : decode cX3_read 69 = .ok (.iload_n 3, 1) := by decide +kernel
theorem dX3_read_70 : decode cX3_read 70 = .ok (.ireturn, 1) := by decide +kernel
theorem dX3_read_71 : decode cX3_read 71 = .ok (.iinc 3 1, 3) := by decide +kernel
theorem dX3_read_74 : decode cX3_read 74 = .ok (.goto (-47), 3) := by decide +kernel
theorem dX3_read_77 : decode cX3_read 77 = .ok (.aload_n 0, 1) := by decide +kernel
theorem dX3_read_78 : decode cX3_read 78 = .ok (.invokevirtual 101, 3) := by decide +kernel
theorem dX3_read_81 : decode cX3_read 81 = .ok (.aload_n 0, 1) := by decide +kernel
theorem dX3_read_82 : decode cX3_read 82 = .ok (.iconst 1, 1) := by decide +kernel
theorem dX3_read_83 : decode cX3_read 83 = .ok (.invokevirtual 104, 3) := by decide +kernel
theorem dX3_read_86 : decode cX3_read 86 = .ok (.aload_n 0, 1) := by decide +kernel
theorem dX3_read_87 : decode cX3_read 87 = .ok (.getfield 90, 3) := by decide +kernel
theorem dX3_read_90 : decode cX3_read 90 = .ok (.ifCond .ne 10, 3) := by decide +kernel
theorem dX3_read_93 : decode cX3_read 93 = .ok (.aload_n 0, 1) := by decide +kernel
theorem dX3_read_94 : decode cX3_read 94 = .ok (.getfield 81, 3) := by decide +kernel
theorem dX3_read_97 : decode cX3_read 97 = .ok (.ifCond .le 5, 3) := by decide +kernel
theorem dX3_read_100 : decode cX3_read 100 = .ok (.iload_n 2, 1) := by decide +kernel
theorem dX3_read_101 : decode cX3_read 101 = .ok (.ireturn, 1) := by decide +kernel
theorem dX3_read_102 : decode cX3_read 102 = .ok (.aload_n 0, 1) := by decide +kernel
theorem dX3_read_103 : decode cX3_read 103 = .ok (.aload_n 0, 1) := by decide +kernel
theorem dX3_read_104 : decode cX3_read 104 = .ok (.getfield 78, 3) := by decide +kernel
theorem dX3_read_107 : decode cX3_read 107 = .ok (.putfield 36, 3) := by decide +kernel
theorem dX3_read_110 : decode cX3_read 110 = .ok (.aload_n 0, 1) := by decide +kernel
theorem dX3_read_111 : decode cX3_read 111 = .ok (.getfield 22, 3) := by decide +kernel
theorem dX3_read_114 : decode cX3_read 114 = .ok (.iconst 0, 1) := by decide +kernel
theorem dX3_read_115 : decode cX3_read 115 = .ok (.aload_n 0, 1) := by decide +kernel
theorem dX3_read_116 : decode cX3_read 116 = .ok (.getfield 9, 3) := by decide +kernel
theorem dX3_read_119 : decode cX3_read 119 = .ok (.iconst 0, 1) := by decide +kernel
theorem dX3_read_120 : decode cX3_read 120 = .ok (.bipush 50, 2) := by decide +kernel
theorem dX3_read_122 : decode cX3_read 122 = .ok (.invokestatic 45, 3) := by decide +kernel
theorem dX3_read_125 : decode cX3_read 125 = .ok (.aload_n 0, 1) := by decide +kernel
theorem dX3_read_126 : decode cX3_read 126 = .ok (.dup, 1) := by decide +kernel
theorem dX3_read_127 : decode cX3_read 127 = .ok (.getfield 18, 3) := by decide +kernel
theorem dX3_read_130 : decode cX3_read 130 = .ok (.iconst 1, 1) := by decide +kernel
theorem dX3_read_131 : decode cX3_read 131 = .ok (.iadd, 1) := by decide +kernel
theorem dX3_read_132 : decode cX3_read 132 = .ok (.putfield 18, 3) := by decide +kernel
theorem dX3_read_135 : decode cX3_read 135 = .ok (.iconst (-1), 1) := by decide +kernel
theorem dX3_read_136 : decode cX3_read 136 = .ok (.ireturn, 1) := by decide +kernel
theorem dX3_begins_0 : decode cX3_begins 0 = .ok (.iload_n 1, 1) := by decide +kernel
theorem dX3_begins_1 : decode cX3_begins 1 = .ok (.bipush 33, 2) := by decide +kernel
theorem dX3_begins_3 : decode cX3_begins 3 = .ok (.if_icmp .eq 9, 3) := by decide +kernel
theorem dX3_begins_6 : decode cX3_begins 6 = .ok (.iload_n 1, 1) := by decide +kernel
theorem dX3_begins_7 : decode cX3_begins 7 = .ok (.bipush 40, 2) := by decide +kernel
theorem dX3_begins_9 : decode cX3_begins 9 = .ok (.if_icmp .ne 30, 3) := by decide +kernel
theorem dX3_begins_12 : decode cX3_begins 12 = .ok (.aload_n 0, 1) := by decide +kernel
theorem dX3_begins_13 : decode cX3_begins 13 = .ok (.getfield 84, 3) := by decide +kernel
theorem dX3_begins_16 : decode cX3_begins 16 = .ok (.iconst 5, 1) := by decide +kernel
theorem dX3_begins_17 : decode cX3_begins 17 = .ok (.if_icmp .lt 5, 3) := by decide +kernel
theorem dX3_begins_20 : decode cX3_begins 20 = .ok (.iconst 0, 1) := by decide +kernel
theorem dX3_begins_21 : decode cX3_begins 21 = .ok (.ireturn, 1) := by decide +kernel
theorem dX3_begins_22 : decode cX3_begins 22 = .ok (.aload_n 0, 1) := by decide +kernel
theorem dX3_begins_23 : decode cX3_begins 23 = .ok (.dup, 1) := by decide +kernel
theorem dX3_begins_24 : decode cX3_begins 24 = .ok (.getfield 84, 3) := by decide +kernel
theorem dX3_begins_27 : decode cX3_begins 27 = .ok (.iconst 1, 1) := by decide +kernel
theorem dX3_begins_28 : decode cX3_begins 28 = .ok (.iadd, 1) := by decide +kernel
theorem dX3_begins_29 : decode cX3_begins 29 = .ok (.putfield 84, 3) := by decide +kernel
theorem dX3_begins_32 : decode cX3_begins 32 = .ok (.aload_n 0, 1) := by decide +kernel
theorem dX3_begins_33 : decode cX3_begins 33 = .ok (.iload_n 1, 1) := by decide +kernel
theorem dX3_begins_34 : decode cX3_begins 34 = .ok (.invokevirtual 108, 3) := by decide +kernel
theorem dX3_begins_37 : decode cX3_begins 37 = .ok (.iconst 1, 1) := by decide +kernel
theorem dX3_begins_38 : decode cX3_begins 38 = .ok (.ireturn, 1) := by decide +kernel
theorem dX3_begins_39 : decode cX3_begins 39 = .ok (.aload_n 0, 1) := by decide +kernel
theorem dX3_begins_40 : decode cX3_begins 40 = .ok (.getfield 32, 3) := by decide +kernel
theorem dX3_begins_43 : decode cX3_begins 43 = .ok (.iload_n 1, 1) := by decide +kernel
theorem dX3_begins_44 : decode cX3_begins 44 = .ok (.i2c, 1) := by decide +kernel
theorem dX3_begins_45 : decode cX3_begins 45 = .ok (.invokevirtual 111, 3) := by decide +kernel
theorem dX3_begins_48 : decode cX3_begins 48 = .ok (.istore_n 2, 1) := by decide +kernel
theorem dX3_begins_49 : decode cX3_begins 49 = .ok (.iload_n 1, 1) := by decide +kernel
theorem dX3_begins_50 : decode cX3_begins 50 = .ok (.invokestatic 117, 3) := by decide +kernel
theorem dX3_begins_53 : decode cX3_begins 53 = .ok (.ifCond .ne 9, 3) := by decide +kernel
theorem dX3_begins_56 : decode cX3_begins 56 = .ok (.iload_n 2, 1) := by decide +kernel
theorem dX3_begins_57 : decode cX3_begins 57 = .ok (.ifCond .ge 5, 3) := by decide +kernel
theorem dX3_begins_60 : decode cX3_begins 60 = .ok (.iconst 0, 1) := by decide +kernel
theorem dX3_begins_61 : decode cX3_begins 61 = .ok (.ireturn, 1) := by decide +kernel
theorem dX3_begins_62 : decode cX3_begins 62 = .ok (.aload_n 0, 1) := by decide +kernel
theorem dX3_begins_63 : decode cX3_begins 63 = .ok (.iload_n 1, 1) := by decide +kernel
theorem dX3_begins_64 : decode cX3_begins 64 = .ok (.invokestatic 117, 3) := by decide +kernel
theorem dX3_begins_67 : decode cX3_begins 67 = .ok (.ifCond .eq 7, 3) := by decide +kernel
theorem dX3_begins_70 : decode cX3_begins 70 = .ok (.iconst 1, 1) := by decide +kernel
theorem dX3_begins_71 : decode cX3_begins 71 = .ok (.goto 4, 3) := by decide +kernel
theorem dX3_begins_74 : decode cX3_begins 74 = .ok (.iconst 0, 1) := by decide +kernel
theorem dX3_begins_75 : decode cX3_begins 75 = .ok (.putfield 87, 3) := by decide +kernel
theorem dX3_begins_78 : decode cX3_begins 78 = .ok (.aload_n 0, 1) := by decide +kernel
theorem dX3_begins_79 : decode cX3_begins 79 = .ok (.iload_n 1, 1) := by decide +kernel
theorem dX3_begins_80 : decode cX3_begins 80 = .ok (.invokestatic 117, 3) := by decide +kernel
theorem dX3_begins_83 : decode cX3_begins 83 = .ok (.ifCond .eq 10, 3) := by decide +kernel
theorem dX3_begins_86 : decode cX3_begins 86 = .ok (.iload_n 1, 1) := by decide +kernel
theorem dX3_begins_87 : decode cX3_begins 87 = .ok (.bipush 48, 2) := by decide +kernel
theorem dX3_begins_89 : decode cX3_begins 89 = .ok (.isub, 1) := by decide +kernel
theorem dX3_begins_90 : decode cX3_begins 90 = .ok (.goto 6, 3) := by decide +kernel
theorem dX3_begins_93 : decode cX3_begins 93 = .ok (.iconst (-1), 1) := by decide +kernel
theorem dX3_begins_94 : decode cX3_begins 94 = .ok (.iload_n 2, 1) := by decide +kernel
theorem dX3_begins_95 : decode cX3_begins 95 = .ok (.isub, 1) := by decide +kernel
theorem dX3_begins_96 : decode cX3_begins 96 = .ok (.invokevirtual 120, 3) := by decide +kernel
theorem dX3_begins_99 : decode cX3_begins 99 = .ok (.aload_n 0, 1) := by decide +kernel
theorem dX3_begins_100 : decode cX3_begins 100 = .ok (.iconst 0, 1) := by decide +kernel
theorem dX3_begins_101 : decode cX3_begins 101 = .ok (.putfield 90, 3) := by decide +kernel
theorem dX3_begins_104 : decode cX3_begins 104 = .ok (.iconst 1, 1) := by decide +kernel
theorem dX3_begins_105 : decode cX3_begins 105 = .ok (.ireturn, 1) := by decide +kernel
theorem dX3_follows_0 : decode cX3_follows 0 = .ok (.iload_n 1, 1) := by decide +kernel
theorem dX3_follows_1 : decode cX3_follows 1 = .ok (.invokestatic 117, 3) := by decide +kernel
theorem dX3_follows_4 : decode cX3_follows 4 = .ok (.ifCond .eq 12, 3) := by decide +kernel
theorem dX3_follows_7 : decode cX3_follows 7 = .ok (.aload_n 0, 1) := by decide +kernel
theorem dX3_follows_8 : decode cX3_follows 8 = .ok (.iload_n 1, 1) := by decide +kernel
theorem dX3_follows_9 : decode cX3_follows 9 = .ok (.bipush 48, 2) := by decide +kernel
theorem dX3_follows_11 : decode cX3_follows 11 = .ok (.isub, 1) := by decide +kernel
theorem dX3_follows_12 : decode cX3_follows 12 = .ok (.invokevirtual 123, 3) := by decide +kernel
theorem dX3_follows_15 : decode cX3_follows 15 = .ok (.ireturn, 1) := by decide +kernel
theorem dX3_follows_16 : decode cX3_follows 16 = .ok (.aload_n 0, 1) := by decide +kernel
theorem dX3_follows_17 : decode cX3_follows 17 = .ok (.iconst 0, 1) := by decide +kernel
theorem dX3_follows_18 : decode cX3_follows 18 = .ok (.putfield 87, 3) := by decide +kernel
theorem dX3_follows_21 : decode cX3_follows 21 = .ok (.aload_n 0, 1) := by decide +kernel
theorem dX3_follows_22 : decode cX3_follows 22 = .ok (.invokevirtual 101, 3) := by decide +kernel
theorem dX3_follows_25 : decode cX3_follows 25 = .ok (.iload_n 1, 1) := by decide +kernel
theorem dX3_follows_26 : decode cX3_follows 26 = .ok (.bipush 41, 2) := by decide +kernel
theorem dX3_follows_28 : decode cX3_follows 28 = .ok (.if_icmp .ne 8, 3) := by decide +kernel
theorem dX3_follows_31 : decode cX3_follows 31 = .ok (.aload_n 0, 1) := by decide +kernel
theorem dX3_follows_32 : decode cX3_follows 32 = .ok (.invokevirtual 126, 3) := by decide +kernel
theorem dX3_follows_35 : decode cX3_follows 35 = .ok (.ireturn, 1) := by decide +kernel
theorem dX3_follows_36 : decode cX3_follows 36 = .ok (.iload_n 1, 1) := by decide +kernel
theorem dX3_follows_37 : decode cX3_follows 37 = .ok (.invokestatic 130, 3) := by decide +kernel
theorem dX3_follows_40 : decode cX3_follows 40 = .ok (.istore_n 2, 1) := by decide +kernel
theorem dX3_follows_41 : decode cX3_follows 41 = .ok (.iload_n 2, 1) := by decide +kernel
theorem dX3_follows_42 : decode cX3_follows 42 = .ok (.ifCond .ne 5, 3) := by decide +kernel
theorem dX3_follows_45 : decode cX3_follows 45 = .ok (.iconst 0, 1) := by decide +kernel
theorem dX3_follows_46 : decode cX3_follows 46 = .ok (.ireturn, 1) := by decide +kernel
theorem dX3_follows_47 : decode cX3_follows 47 = .ok (.aload_n 0, 1) := by decide +kernel
theorem dX3_follows_48 : decode cX3_follows 48 = .ok (.iload_n 2, 1) := by decide +kernel
theorem dX3_follows_49 : decode cX3_follows 49 = .ok (.iconst 3, 1) := by decide +kernel
theorem dX3_follows_50 : decode cX3_follows 50 = .ok (.if_icmp .ne 9, 3) := by decide +kernel
theorem dX3_follows_53 : decode cX3_follows 53 = .ok (.iload_n 2, 1) := by decide +kernel
theorem dX3_follows_54 : decode cX3_follows 54 = .ok (.iconst 1, 1) := by decide +kernel
theorem dX3_follows_55 : decode cX3_follows 55 = .ok (.iadd, 1) := by decide +kernel
theorem dX3_follows_56 : decode cX3_follows 56 = .ok (.goto 4, 3) := by decide +kernel
theorem dX3_follows_59 : decode cX3_follows 59 = .ok (.iload_n 2, 1) := by decide +kernel
theorem dX3_follows_60 : decode cX3_follows 60 = .ok (.invokevirtual 104, 3) := by decide +kernel
theorem dX3_follows_63 : decode cX3_follows 63 = .ok (.iload_n 2, 1) := by decide +kernel
theorem dX3_follows_64 : decode cX3_follows 64 = .ok (.iconst 3, 1) := by decide +kernel
theorem dX3_follows_65 : decode cX3_follows 65 = .ok (.if_icmp .ne 16, 3) := by decide +kernel
theorem dX3_follows_68 : decode cX3_follows 68 = .ok (.aload_n 0, 1) := by decide +kernel
theorem dX3_follows_69 : decode cX3_follows 69 = .ok (.invokevirtual 133, 3) := by decide +kernel
theorem dX3_follows_72 : decode cX3_follows 72 = .ok (.invokestatic 130, 3) := by decide +kernel
theorem dX3_follows_75 : decode cX3_follows 75 = .ok (.iconst 3, 1) := by decide +kernel
theorem dX3_follows_76 : decode cX3_follows 76 = .ok (.if_icmp .ne 5, 3) := by decide +kernel
theorem dX3_follows_79 : decode cX3_follows 79 = .ok (.iconst 0, 1) := by decide +kernel
theorem dX3_follows_80 : decode cX3_follows 80 = .ok (.ireturn, 1) := by decide +kernel
theorem dX3_follows_81 : decode cX3_follows 81 = .ok (.aload_n 0, 1) := by decide +kernel
theorem dX3_follows_82 : decode cX3_follows 82 = .ok (.iload_n 1, 1) := by decide +kernel
theorem dX3_follows_83 : decode cX3_follows 83 = .ok (.invokevirtual 108, 3) := by decide +kernel
theorem dX3_follows_86 : decode cX3_follows 86 = .ok (.aload_n 0, 1) := by decide +kernel
theorem dX3_follows_87 : decode cX3_follows 87 = .ok (.iconst 1, 1) := by decide +kernel
theorem dX3_follows_88 : decode cX3_follows 88 = .ok (.putfield 90, 3) := by decide +kernel
theorem dX3_follows_91 : decode cX3_follows 91 = .ok (.iconst 1, 1) := by decide +kernel
theorem dX3_follows_92 : decode cX3_follows 92 = .ok (.ireturn, 1) := by decide +kernel
theorem dX3_addDigit_0 : decode cX3_addDigit 0 = .ok (.aload_n 0, 1) := by decide +kernel
theorem dX3_addDigit_1 : decode cX3_addDigit 1 = .ok (.getfield 87, 3) := by decide +kernel
theorem dX3_addDigit_4 : decode cX3_addDigit 4 = .ok (.ifCond .eq 24, 3) := by decide +kernel
theorem dX3_addDigit_7 : decode cX3_addDigit 7 = .ok (.aload_n 0, 1) := by decide +kernel
theorem dX3_addDigit_8 : decode cX3_addDigit 8 = .ok (.getfield 87, 3) := by decide +kernel
theorem dX3_addDigit_11 : decode cX3_addDigit 11 = .ok (.iconst 4, 1) := by decide +kernel
theorem dX3_addDigit_12 : decode cX3_addDigit 12 = .ok (.if_icmp .ge 16, 3) := by decide +kernel
theorem dX3_addDigit_15 : decode cX3_addDigit 15 = .ok (.aload_n 0, 1) := by decide +kernel
theorem dX3_addDigit_16 : decode cX3_addDigit 16 = .ok (.getfield 78, 3) := by decide +kernel
theorem dX3_addDigit_19 : decode cX3_addDigit 19 = .ok (.iconst 1, 1) := by decide +kernel
theorem dX3_addDigit_20 : decode cX3_addDigit 20 = .ok (.bipush 50, 2) := by decide +kernel
theorem dX3_addDigit_22 : decode cX3_addDigit 22 = .ok (.invokestatic 58, 3) := by decide +kernel
theorem dX3_addDigit_25 : decode cX3_addDigit 25 = .ok (.ifCond .ne 5, 3) := by decide +kernel
theorem dX3_addDigit_28 : decode cX3_addDigit 28 = .ok (.iconst 0, 1) := by decide +kernel
theorem dX3_addDigit_29 : decode cX3_addDigit 29 = .ok (.ireturn, 1) := by decide +kernel
theorem dX3_addDigit_30 : decode cX3_addDigit 30 = .ok (.aload_n 0, 1) := by decide +kernel
theorem dX3_addDigit_31 : decode cX3_addDigit 31 = .ok (.getfield 22, 3) := by decide +kernel
theorem dX3_addDigit_34 : decode cX3_addDigit 34 = .ok (.aload_n 0, 1) := by decide +kernel
theorem dX3_addDigit_35 : decode cX3_addDigit 35 = .ok (.getfield 78, 3) := by decide +kernel
theorem dX3_addDigit_38 : decode cX3_addDigit 38 = .ok (.iconst 1, 1) := by decide +kernel
theorem dX3_addDigit_39 : decode cX3_addDigit 39 = .ok (.isub, 1) := by decide +kernel
theorem dX3_addDigit_40 : decode cX3_addDigit 40 = .ok (.aload_n 0, 1) := by decide +kernel
theorem dX3_addDigit_41 : decode cX3_addDigit 41 = .ok (.getfield 22, 3) := by decide +kernel
theorem dX3_addDigit_44 : decode cX3_addDigit 44 = .ok (.aload_n 0, 1) := by decide +kernel
theorem dX3_addDigit_45 : decode cX3_addDigit 45 = .ok (.getfield 78, 3) := by decide +kernel
theorem dX3_addDigit_48 : decode cX3_addDigit 48 = .ok (.iconst 1, 1) := by decide +kernel
theorem dX3_addDigit_49 : decode cX3_addDigit 49 = .ok (.isub, 1) := by decide +kernel
theorem dX3_addDigit_50 : decode cX3_addDigit 50 = .ok (.iaload, 1) := by decide +kernel
theorem dX3_addDigit_51 : decode cX3_addDigit 51 = .ok (.bipush 10, 2) := by decide +kernel
theorem dX3_addDigit_53 : decode cX3_addDigit 53 = .ok (.imul, 1) := by decide +kernel
theorem dX3_addDigit_54 : decode cX3_addDigit 54 = .ok (.iload_n 1, 1) := by decide +kernel
theorem dX3_addDigit_55 : decode cX3_addDigit 55 = .ok (.iadd, 1) := by decide +kernel
theorem dX3_addDigit_56 : decode cX3_addDigit 56 = .ok (.iastore, 1) := by decide +kernel
theorem dX3_addDigit_57 : decode cX3_addDigit 57 = .ok (.aload_n 0, 1) := by decide +kernel
theorem dX3_addDigit_58 : decode cX3_addDigit 58 = .ok (.dup, 1) := by decide +kernel
theorem dX3_addDigit_59 : decode cX3_addDigit 59 = .ok (.getfield 87, 3) := by decide +kernel
theorem dX3_addDigit_62 : decode cX3_addDigit 62 = .ok (.iconst 1, 1) := by decide +kernel
theorem dX3_addDigit_63 : decode cX3_addDigit 63 = .ok (.iadd, 1) := by decide +kernel
theorem dX3_addDigit_64 : decode cX3_addDigit 64 = .ok (.putfield 87, 3) := by decide +kernel
theorem dX3_addDigit_67 : decode cX3_addDigit 67 = .ok (.iconst 1, 1) := by decide +kernel
theorem dX3_addDigit_68 : decode cX3_addDigit 68 = .ok (.ireturn, 1) := by decide +kernel
theorem dX3_closeParenthesis_0 : decode cX3_closeParenthesis 0 = .ok (.aload_n 0, 1) := by decide +kernel
theorem dX3_closeParenthesis_1 : decode cX3_closeParenthesis 1 = .ok (.iconst 1, 1) := by decide +kernel
theorem dX3_closeParenthesis_2 : decode cX3_closeParenthesis 2 = .ok (.invokevirtual 104, 3) := by decide +kernel
theorem dX3_closeParenthesis_5 : decode cX3_closeParenthesis 5 = .ok (.aload_n 0, 1) := by decide +kernel
theorem dX3_closeParenthesis_6 : decode cX3_closeParenthesis 6 = .ok (.invokevirtual 133, 3) := by decide +kernel
theorem dX3_closeParenthesis_9 : decode cX3_closeParenthesis 9 = .ok (.bipush 40, 2) := by decide +kernel
theorem dX3_closeParenthesis_11 : decode cX3_closeParenthesis 11 = .ok (.if_icmp .eq 5, 3) := by decide +kernel
theorem dX3_closeParenthesis_14 : decode cX3_closeParenthesis 14 = .ok (.iconst 0, 1) := by decide +kernel
theorem dX3_closeParenthesis_15 : decode cX3_closeParenthesis 15 = .ok (.ireturn, 1) := by decide +kernel
theorem dX3_closeParenthesis_16 : decode cX3_closeParenthesis 16 = .ok (.aload_n 0, 1) := by decide +kernel
theorem dX3_closeParenthesis_17 : decode cX3_closeParenthesis 17 = .ok (.dup, 1) := by decide +kernel
theorem dX3_closeParenthesis_18 : decode cX3_closeParenthesis 18 = .ok (.getfield 81, 3) := by decide +kernel
theorem dX3_closeParenthesis_21 : decode cX3_closeParenthesis 21 = .ok (.iconst 1, 1) := by decide +kernel
theorem dX3_closeParenthesis_22 : decode cX3_closeParenthesis 22 = .ok (.isub, 1) := by decide +kernel
theorem dX3_closeParenthesis_23 : decode cX3_closeParenthesis 23 = .ok (.putfield 81, 3) := by decide +kernel
theorem dX3_closeParenthesis_26 : decode cX3_closeParenthesis 26 = .ok (.aload_n 0, 1) := by decide +kernel
theorem dX3_closeParenthesis_27 : decode cX3_closeParenthesis 27 = .ok (.dup, 1) := by decide +kernel
theorem dX3_closeParenthesis_28 : decode cX3_closeParenthesis 28 = .ok (.getfield 84, 3) := by decide +kernel
theorem dX3_closeParenthesis_31 : decode cX3_closeParenthesis 31 = .ok (.iconst 1, 1) := by decide +kernel
theorem dX3_closeParenthesis_32 : decode cX3_closeParenthesis 32 = .ok (.isub, 1) := by decide +kernel
theorem dX3_closeParenthesis_33 : decode cX3_closeParenthesis 33 = .ok (.putfield 84, 3) := by decide +kernel
theorem dX3_closeParenthesis_36 : decode cX3_closeParenthesis 36 = .ok (.iconst 1, 1) := by decide +kernel
theorem dX3_closeParenthesis_37 : decode cX3_closeParenthesis 37 = .ok (.ireturn, 1) := by decide +kernel
theorem dX3_closeNots_0 : decode cX3_closeNots 0 = .ok (.iconst 0, 1) := by decide +kernel
theorem dX3_closeNots_1 : decode cX3_closeNots 1 = .ok (.istore_n 1, 1) := by decide +kernel
theorem dX3_closeNots_2 : decode cX3_closeNots 2 = .ok (.iload_n 1, 1) := by decide +kernel
theorem dX3_closeNots_3 : decode cX3_closeNots 3 = .ok (.bipush 50, 2) := by decide +kernel
theorem dX3_closeNots_5 : decode cX3_closeNots 5 = .ok (.if_icmp .ge 32, 3) := by decide +kernel
theorem dX3_closeNots_8 : decode cX3_closeNots 8 = .ok (.aload_n 0, 1) := by decide +kernel
theorem dX3_closeNots_9 : decode cX3_closeNots 9 = .ok (.invokevirtual 133, 3) := by decide +kernel
theorem dX3_closeNots_12 : decode cX3_closeNots 12 = .ok (.bipush 33, 2) := by decide +kernel
theorem dX3_closeNots_14 : decode cX3_closeNots 14 = .ok (.if_icmp .ne 23, 3) := by decide +kernel
theorem dX3_closeNots_17 : decode cX3_closeNots 17 = .ok (.aload_n 0, 1) := by decide +kernel
theorem dX3_closeNots_18 : decode cX3_closeNots 18 = .ok (.invokevirtual 137, 3) := by decide +kernel
theorem dX3_closeNots_21 : decode cX3_closeNots 21 = .ok (.aload_n 0, 1) := by decide +kernel
theorem dX3_closeNots_22 : decode cX3_closeNots 22 = .ok (.dup, 1) := by decide +kernel
theorem dX3_closeNots_23 : decode cX3_closeNots 23 = .ok (.getfield 84, 3) := by decide +kernel
theorem dX3_closeNots_26 : decode cX3_closeNots 26 = .ok (.iconst 1, 1) := by decide +kernel
theorem dX3_closeNots_27 : decode cX3_closeNots 27 = .ok (.isub, 1) := by decide +kernel
theorem dX3_closeNots_28 : decode cX3_closeNots 28 = .ok (.putfield 84, 3) := by decide +kernel
theorem dX3_closeNots_31 : decode cX3_closeNots 31 = .ok (.iinc 1 1, 3) := by decide +kernel
theorem dX3_closeNots_34 : decode cX3_closeNots 34 = .ok (.goto (-32), 3) := by decide +kernel
theorem dX3_closeNots_37 : decode cX3_closeNots 37 = .ok (.return_, 1) := by decide +kernel
theorem dX3_closeFrom_0 : decode cX3_closeFrom 0 = .ok (.iconst 0, 1) := by decide +kernel
theorem dX3_closeFrom_1 : decode cX3_closeFrom 1 = .ok (.istore_n 2, 1) := by decide +kernel
theorem dX3_closeFrom_2 : decode cX3_closeFrom 2 = .ok (.iload_n 2, 1) := by decide +kernel
theorem dX3_closeFrom_3 : decode cX3_closeFrom 3 = .ok (.bipush 50, 2) := by decide +kernel
theorem dX3_closeFrom_5 : decode cX3_closeFrom 5 = .ok (.if_icmp .ge 24, 3) := by decide +kernel
theorem dX3_closeFrom_8 : decode cX3_closeFrom 8 = .ok (.aload_n 0, 1) := by decide +kernel
theorem dX3_closeFrom_9 : decode cX3_closeFrom 9 = .ok (.invokevirtual 133, 3) := by decide +kernel
theorem dX3_closeFrom_12 : decode cX3_closeFrom 12 = .ok (.invokestatic 130, 3) := by decide +kernel
theorem dX3_closeFrom_15 : decode cX3_closeFrom 15 = .ok (.iload_n 1, 1) := by decide +kernel
theorem dX3_closeFrom_16 : decode cX3_closeFrom 16 = .ok (.if_icmp .lt 13, 3) := by decide +kernel
theorem dX3_closeFrom_19 : decode cX3_closeFrom 19 = .ok (.aload_n 0, 1) := by decide +kernel
theorem dX3_closeFrom_20 : decode cX3_closeFrom 20 = .ok (.invokevirtual 137, 3) := by decide +kernel
theorem dX3_closeFrom_23 : decode cX3_closeFrom 23 = .ok (.iinc 2 1, 3) := by decide +kernel
theorem dX3_closeFrom_26 : decode cX3_closeFrom 26 = .ok (.goto (-24), 3) := by decide +kernel
theorem dX3_closeFrom_29 : decode cX3_closeFrom 29 = .ok (.return_, 1) := by decide +kernel
theorem dX3_lastHeld_0 : decode cX3_lastHeld 0 = .ok (.aload_n 0, 1) := by decide +kernel
theorem dX3_lastHeld_1 : decode cX3_lastHeld 1 = .ok (.getfield 81, 3) := by decide +kernel
theorem dX3_lastHeld_4 : decode cX3_lastHeld 4 = .ok (.ifCond .le 26, 3) := by decide +kernel
theorem dX3_lastHeld_7 : decode cX3_lastHeld 7 = .ok (.aload_n 0, 1) := by decide +kernel
theorem dX3_lastHeld_8 : decode cX3_lastHeld 8 = .ok (.getfield 81, 3) := by decide +kernel
theorem dX3_lastHeld_11 : decode cX3_lastHeld 11 = .ok (.bipush 50, 2) := by decide +kernel
theorem dX3_lastHeld_13 : decode cX3_lastHeld 13 = .ok (.if_icmp .gt 17, 3) := by decide +kernel
theorem dX3_lastHeld_16 : decode cX3_lastHeld 16 = .ok (.aload_n 0, 1) := by decide +kernel
theorem dX3_lastHeld_17 : decode cX3_lastHeld 17 = .ok (.getfield 25, 3) := by decide +kernel
theorem dX3_lastHeld_20 : decode cX3_lastHeld 20 = .ok (.aload_n 0, 1) := by decide +kernel
theorem dX3_lastHeld_21 : decode cX3_lastHeld 21 = .ok (.getfield 81, 3) := by decide +kernel
theorem dX3_lastHeld_24 : decode cX3_lastHeld 24 = .ok (.iconst 1, 1) := by decide +kernel
theorem dX3_lastHeld_25 : decode cX3_lastHeld 25 = .ok (.isub, 1) := by decide +kernel
theorem dX3_lastHeld_26 : decode cX3_lastHeld 26 = .ok (.iaload, 1) := by decide +kernel
theorem dX3_lastHeld_27 : decode cX3_lastHeld 27 = .ok (.goto 4, 3) := by decide +kernel
theorem dX3_lastHeld_30 : decode cX3_lastHeld 30 = .ok (.iconst 0, 1) := by decide +kernel
theorem dX3_lastHeld_31 : decode cX3_lastHeld 31 = .ok (.ireturn, 1) := by decide +kernel
theorem dX3_writeLastHeld_0 : decode cX3_writeLastHeld 0 = .ok (.aload_n 0, 1) := by decide +kernel
theorem dX3_writeLastHeld_1 : decode cX3_writeLastHeld 1 = .ok (.aload_n 0, 1) := by decide +kernel
theorem dX3_writeLastHeld_2 : decode cX3_writeLastHeld 2 = .ok (.invokevirtual 133, 3) := by decide +kernel
theorem dX3_writeLastHeld_5 : decode cX3_writeLastHeld 5 = .ok (.ineg, 1) := by decide +kernel
theorem dX3_writeLastHeld_6 : decode cX3_writeLastHeld 6 = .ok (.invokevirtual 120, 3) := by decide +kernel
theorem dX3_writeLastHeld_9 : decode cX3_writeLastHeld 9 = .ok (.aload_n 0, 1) := by decide +kernel
theorem dX3_writeLastHeld_10 : decode cX3_writeLastHeld 10 = .ok (.dup, 1) := by decide +kernel
theorem dX3_writeLastHeld_11 : decode cX3_writeLastHeld 11 = .ok (.getfield 81, 3) := by decide +kernel
theorem dX3_writeLastHeld_14 : decode cX3_writeLastHeld 14 = .ok (.iconst 1, 1) := by decide +kernel
theorem dX3_writeLastHeld_15 : decode cX3_writeLastHeld 15 = .ok (.isub, 1) := by decide +kernel
theorem dX3_writeLastHeld_16 : decode cX3_writeLastHeld 16 = .ok (.putfield 81, 3) := by decide +kernel
theorem dX3_writeLastHeld_19 : decode cX3_writeLastHeld 19 = .ok (.return_, 1) := by decide +kernel
theorem dX3_hold_0 : decode cX3_hold 0 = .ok (.aload_n 0, 1) := by decide +kernel
theorem dX3_hold_1 : decode cX3_hold 1 = .ok (.getfield 81, 3) := by decide +kernel
theorem dX3_hold_4 : decode cX3_hold 4 = .ok (.ifCond .lt 32, 3) := by decide +kernel
theorem dX3_hold_7 : decode cX3_hold 7 = .ok (.aload_n 0, 1) := by decide +kernel
theorem dX3_hold_8 : decode cX3_hold 8 = .ok (.getfield 81, 3) := by decide +kernel
theorem dX3_hold_11 : decode cX3_hold 11 = .ok (.bipush 50, 2) := by decide +kernel
theorem dX3_hold_13 : decode cX3_hold 13 = .ok (.if_icmp .ge 23, 3) := by decide +kernel
theorem dX3_hold_16 : decode cX3_hold 16 = .ok (.aload_n 0, 1) := by decide +kernel
theorem dX3_hold_17 : decode cX3_hold 17 = .ok (.getfield 25, 3) := by decide +kernel
theorem dX3_hold_20 : decode cX3_hold 20 = .ok (.aload_n 0, 1) := by decide +kernel
theorem dX3_hold_21 : decode cX3_hold 21 = .ok (.getfield 81, 3) := by decide +kernel
theorem dX3_hold_24 : decode cX3_hold 24 = .ok (.iload_n 1, 1) := by decide +kernel
theorem dX3_hold_25 : decode cX3_hold 25 = .ok (.iastore, 1) := by decide +kernel
theorem dX3_hold_26 : decode cX3_hold 26 = .ok (.aload_n 0, 1) := by decide +kernel
theorem dX3_hold_27 : decode cX3_hold 27 = .ok (.dup, 1) := by decide +kernel
theorem dX3_hold_28 : decode cX3_hold 28 = .ok (.getfield 81, 3) := by decide +kernel
theorem dX3_hold_31 : decode cX3_hold 31 = .ok (.iconst 1, 1) := by decide +kernel
theorem dX3_hold_32 : decode cX3_hold 32 = .ok (.iadd, 1) := by decide +kernel
theorem dX3_hold_33 : decode cX3_hold 33 = .ok (.putfield 81, 3) := by decide +kernel
theorem dX3_hold_36 : decode cX3_hold 36 = .ok (.return_, 1) := by decide +kernel
theorem dX3_write_0 : decode cX3_write 0 = .ok (.aload_n 0, 1) := by decide +kernel
theorem dX3_write_1 : decode cX3_write 1 = .ok (.getfield 78, 3) := by decide +kernel
theorem dX3_write_4 : decode cX3_write 4 = .ok (.ifCond .lt 32, 3) := by decide +kernel
theorem dX3_write_7 : decode cX3_write 7 = .ok (.aload_n 0, 1) := by decide +kernel
theorem dX3_write_8 : decode cX3_write 8 = .ok (.getfield 78, 3) := by decide +kernel
theorem dX3_write_11 : decode cX3_write 11 = .ok (.bipush 50, 2) := by decide +kernel
theorem dX3_write_13 : decode cX3_write 13 = .ok (.if_icmp .ge 23, 3) := by decide +kernel
theorem dX3_write_16 : decode cX3_write 16 = .ok (.aload_n 0, 1) := by decide +kernel
theorem dX3_write_17 : decode cX3_write 17 = .ok (.getfield 22, 3) := by decide +kernel
theorem dX3_write_20 : decode cX3_write 20 = .ok (.aload_n 0, 1) := by decide +kernel
theorem dX3_write_21 : decode cX3_write 21 = .ok (.getfield 78, 3) := by decide +kernel
theorem dX3_write_24 : decode cX3_write 24 = .ok (.iload_n 1, 1) := by decide +kernel
theorem dX3_write_25 : decode cX3_write 25 = .ok (.iastore, 1) := by decide +kernel
theorem dX3_write_26 : decode cX3_write 26 = .ok (.aload_n 0, 1) := by decide +kernel
theorem dX3_write_27 : decode cX3_write 27 = .ok (.dup, 1) := by decide +kernel
theorem dX3_write_28 : decode cX3_write 28 = .ok (.getfield 78, 3) := by decide +kernel
theorem dX3_write_31 : decode cX3_write 31 = .ok (.iconst 1, 1) := by decide +kernel
theorem dX3_write_32 : decode cX3_write 32 = .ok (.iadd, 1) := by decide +kernel
theorem dX3_write_33 : decode cX3_write 33 = .ok (.putfield 78, 3) := by decide +kernel
theorem dX3_write_36 : decode cX3_write 36 = .ok (.return_, 1) := by decide +kernel
theorem dX3_isDigit_0 : decode cX3_isDigit 0 = .ok (.iload_n 0, 1) := by decide +kernel
theorem dX3_isDigit_1 : decode cX3_isDigit 1 = .ok (.bipush 48, 2) := by decide +kernel
theorem dX3_isDigit_3 : decode cX3_isDigit 3 = .ok (.bipush 57, 2) := by decide +kernel
theorem dX3_isDigit_5 : decode cX3_isDigit 5 = .ok (.invokestatic 58, 3) := by decide +kernel
theorem dX3_isDigit_8 : decode cX3_isDigit 8 = .ok (.ireturn, 1) := by decide +kernel
theorem dX3_rankOf_0 : decode cX3_rankOf 0 = .ok (.iload_n 0, 1) := by decide +kernel
theorem dX3_rankOf_1 : decode cX3_rankOf 1 = .ok (.lookupswitch 101 #[(37, 99), (38, 93), (42, 99), (43, 97), (45, 97), (47, 99), (60, 95), (61, 95), (62, 95), (124, 91)], 91) := by decide +kernel
theorem dX3_rankOf_92 : decode cX3_rankOf 92 = .ok (.iconst 1, 1) := by decide +kernel
theorem dX3_rankOf_93 : decode cX3_rankOf 93 = .ok (.ireturn, 1) := by decide +kernel
theorem dX3_rankOf_94 : decode cX3_rankOf 94 = .ok (.iconst 2, 1) := by decide +kernel
theorem dX3_rankOf_95 : decode cX3_rankOf 95 = .ok (.ireturn, 1) := by decide +kernel
theorem dX3_rankOf_96 : decode cX3_rankOf 96 = .ok (.iconst 3, 1) := by decide +kernel
theorem dX3_rankOf_97 : decode cX3_rankOf 97 = .ok (.ireturn, 1) := by decide +kernel
theorem dX3_rankOf_98 : decode cX3_rankOf 98 = .ok (.iconst 4, 1) := by decide +kernel
theorem dX3_rankOf_99 : decode cX3_rankOf 99 = .ok (.ireturn, 1) := by decide +kernel
theorem dX3_rankOf_100 : decode cX3_rankOf 100 = .ok (.iconst 5, 1) := by decide +kernel
theorem dX3_rankOf_101 : decode cX3_rankOf 101 = .ok (.ireturn, 1) := by decide +kernel
theorem dX3_rankOf_102 : decode cX3_rankOf 102 = .ok (.iconst 0, 1) := by decide +kernel
theorem dX3_rankOf_103 : decode cX3_rankOf 103 = .ok (.ireturn, 1) := by decide +kernel
theorem dX4_isA_0 : decode cX4_isA 0 = .ok (.iload_n 1, 1) := by decide +kernel
theorem dX4_isA_1 : decode cX4_isA 1 = .ok (.iconst 2, 1) := by decide +kernel
theorem dX4_isA_2 : decode cX4_isA 2 = .ok (.if_icmp .eq 11, 3) := by decide +kernel
theorem dX4_isA_5 : decode cX4_isA 5 = .ok (.aload_n 0, 1) := by decide +kernel
theorem dX4_isA_6 : decode cX4_isA 6 = .ok (.iload_n 1, 1) := by decide +kernel
theorem dX4_isA_7 : decode cX4_isA 7 = .ok (.invokespecial 7, 3) := by decide +kernel
theorem dX4_isA_10 : decode cX4_isA 10 = .ok (.ifCond .eq 7, 3) := by decide +kernel
theorem dX4_isA_13 : decode cX4_isA 13 = .ok (.iconst 1, 1) := by decide +kernel
theorem dX4_isA_14 : decode cX4_isA 14 = .ok (.goto 4, 3) := by decide +kernel
theorem dX4_isA_17 : decode cX4_isA 17 = .ok (.iconst 0, 1) := by decide +kernel
theorem dX4_isA_18 : decode cX4_isA 18 = .ok (.ireturn, 1) := by decide +kernel
theorem dX4_moves_0 : decode cX4_moves 0 = .ok (.iconst 0, 1) := by decide +kernel
theorem dX4_moves_1 : decode cX4_moves 1 = .ok (.ireturn, 1) := by decide +kernel
theorem dX4_lets_0 : decode cX4_lets 0 = .ok (.iload_n 2, 1) := by decide +kernel
theorem dX4_lets_1 : decode cX4_lets 1 = .ok (.iconst 1, 1) := by decide +kernel
theorem dX4_lets_2 : decode cX4_lets 2 = .ok (.iadd, 1) := by decide +kernel
theorem dX4_lets_3 : decode cX4_lets 3 = .ok (.ireturn, 1) := by decide +kernel
theorem dX4_tears_0 : decode cX4_tears 0 = .ok (.iload_n 1, 1) := by decide +kernel
theorem dX4_tears_1 : decode cX4_tears 1 = .ok (.iconst 3, 1) := by decide +kernel
theorem dX4_tears_2 : decode cX4_tears 2 = .ok (.if_icmp .ge 7, 3) := by decide +kernel
theorem dX4_tears_5 : decode cX4_tears 5 = .ok (.iconst 1, 1) := by decide +kernel
theorem dX4_tears_6 : decode cX4_tears 6 = .ok (.goto 4, 3) := by decide +kernel
theorem dX4_tears_9 : decode cX4_tears 9 = .ok (.iconst 0, 1) := by decide +kernel
theorem dX4_tears_10 : decode cX4_tears 10 = .ok (.ireturn, 1) := by decide +kernel
theorem dX4_sayLets_0 : decode cX4_sayLets 0 = .ok (.aload_n 2, 1) := by decide +kernel
theorem dX4_sayLets_1 : decode cX4_sayLets 1 = .ok (.bipush 30, 2) := by decide +kernel
theorem dX4_sayLets_3 : decode cX4_sayLets 3 = .ok (.invokevirtual 11, 3) := by decide +kernel
theorem dX4_sayLets_6 : decode cX4_sayLets 6 = .ok (.aload_n 0, 1) := by decide +kernel
theorem dX4_sayLets_7 : decode cX4_sayLets 7 = .ok (.iload_n 1, 1) := by decide +kernel
theorem dX4_sayLets_8 : decode cX4_sayLets 8 = .ok (.aload_n 2, 1) := by decide +kernel
theorem dX4_sayLets_9 : decode cX4_sayLets 9 = .ok (.invokespecial 17, 3) := by decide +kernel
theorem dX4_sayLets_12 : decode cX4_sayLets 12 = .ok (.aload_n 0, 1) := by decide +kernel
theorem dX4_sayLets_13 : decode cX4_sayLets 13 = .ok (.iconst 1, 1) := by decide +kernel
theorem dX4_sayLets_14 : decode cX4_sayLets 14 = .ok (.aload_n 2, 1) := by decide +kernel
theorem dX4_sayLets_15 : decode cX4_sayLets 15 = .ok (.invokevirtual 21, 3) := by decide +kernel
theorem dX4_sayLets_18 : decode cX4_sayLets 18 = .ok (.isub, 1) := by decide +kernel
theorem dX4_sayLets_19 : decode cX4_sayLets 19 = .ok (.ireturn, 1) := by decide +kernel
theorem dX5_isA_0 : decode cX5_isA 0 = .ok (.iload_n 1, 1) := by decide +kernel
theorem dX5_isA_1 : decode cX5_isA 1 = .ok (.iconst 3, 1) := by decide +kernel
theorem dX5_isA_2 : decode cX5_isA 2 = .ok (.if_icmp .eq 11, 3) := by decide +kernel
theorem dX5_isA_5 : decode cX5_isA 5 = .ok (.aload_n 0, 1) := by decide +kernel
theorem dX5_isA_6 : decode cX5_isA 6 = .ok (.iload_n 1, 1) := by decide +kernel
theorem dX5_isA_7 : decode cX5_isA 7 = .ok (.invokespecial 7, 3) := by decide +kernel
theorem dX5_isA_10 : decode cX5_isA 10 = .ok (.ifCond .eq 7, 3) := by decide +kernel
theorem dX5_isA_13 : decode cX5_isA 13 = .ok (.iconst 1, 1) := by decide +kernel
theorem dX5_isA_14 : decode cX5_isA 14 = .ok (.goto 4, 3) := by decide +kernel
theorem dX5_isA_17 : decode cX5_isA 17 = .ok (.iconst 0, 1) := by decide +kernel
theorem dX5_isA_18 : decode cX5_isA 18 = .ok (.ireturn, 1) := by decide +kernel
theorem dX5_moves_0 : decode cX5_moves 0 = .ok (.iload_n 1, 1) := by decide +kernel
theorem dX5_moves_1 : decode cX5_moves 1 = .ok (.ireturn, 1) := by decide +kernel
theorem dX5_reach_0 : decode cX5_reach 0 = .ok (.iconst 2, 1) := by decide +kernel
theorem dX5_reach_1 : decode cX5_reach 1 = .ok (.ireturn, 1) := by decide +kernel
theorem dX5_sayTears_0 : decode cX5_sayTears 0 = .ok (.aload_n 2, 1) := by decide +kernel
theorem dX5_sayTears_1 : decode cX5_sayTears 1 = .ok (.bipush 40, 2) := by decide +kernel
theorem dX5_sayTears_3 : decode cX5_sayTears 3 = .ok (.invokevirtual 11, 3) := by decide +kernel
theorem dX5_sayTears_6 : decode cX5_sayTears 6 = .ok (.aload_n 0, 1) := by decide +kernel
theorem dX5_sayTears_7 : decode cX5_sayTears 7 = .ok (.iload_n 1, 1) := by decide +kernel
theorem dX5_sayTears_8 : decode cX5_sayTears 8 = .ok (.aload_n 2, 1) := by decide +kernel
theorem dX5_sayTears_9 : decode cX5_sayTears 9 = .ok (.invokespecial 17, 3) := by decide +kernel
theorem dX5_sayTears_12 : decode cX5_sayTears 12 = .ok (.ineg, 1) := by decide +kernel
theorem dX5_sayTears_13 : decode cX5_sayTears 13 = .ok (.ireturn, 1) := by decide +kernel
theorem dX6_isA_0 : decode cX6_isA 0 = .ok (.iload_n 1, 1) := by decide +kernel
theorem dX6_isA_1 : decode cX6_isA 1 = .ok (.iconst 4, 1) := by decide +kernel
theorem dX6_isA_2 : decode cX6_isA 2 = .ok (.if_icmp .eq 11, 3) := by decide +kernel
theorem dX6_isA_5 : decode cX6_isA 5 = .ok (.aload_n 0, 1) := by decide +kernel
theorem dX6_isA_6 : decode cX6_isA 6 = .ok (.iload_n 1, 1) := by decide +kernel
theorem dX6_isA_7 : decode cX6_isA 7 = .ok (.invokespecial 7, 3) := by decide +kernel
theorem dX6_isA_10 : decode cX6_isA 10 = .ok (.ifCond .eq 7, 3) := by decide +kernel
theorem dX6_isA_13 : decode cX6_isA 13 = .ok (.iconst 1, 1) := by decide +kernel
theorem dX6_isA_14 : decode cX6_isA 14 = .ok (.goto 4, 3) := by decide +kernel
theorem dX6_isA_17 : decode cX6_isA 17 = .ok (.iconst 0, 1) := by decide +kernel
theorem dX6_isA_18 : decode cX6_isA 18 = .ok (.ireturn, 1) := by decide +kernel
theorem dX6_moves_0 : decode cX6_moves 0 = .ok (.aload_n 0, 1) := by decide +kernel
theorem dX6_moves_1 : decode cX6_moves 1 = .ok (.iload_n 1, 1) := by decide +kernel
theorem dX6_moves_2 : decode cX6_moves 2 = .ok (.iload_n 2, 1) := by decide +kernel
theorem dX6_moves_3 : decode cX6_moves 3 = .ok (.iload_n 3, 1) := by decide +kernel
theorem dX6_moves_4 : decode cX6_moves 4 = .ok (.invokespecial 11, 3) := by decide +kernel
theorem dX6_moves_7 : decode cX6_moves 7 = .ok (.iconst 2, 1) := by decide +kernel
theorem dX6_moves_8 : decode cX6_moves 8 = .ok (.idiv, 1) := by decide +kernel
theorem dX6_moves_9 : decode cX6_moves 9 = .ok (.ireturn, 1) := by decide +kernel
theorem dX6_sayTells_0 : decode cX6_sayTells 0 = .ok (.aload_n 2, 1) := by decide +kernel
theorem dX6_sayTells_1 : decode cX6_sayTells 1 = .ok (.bipush 50, 2) := by decide +kernel
theorem dX6_sayTells_3 : decode cX6_sayTells 3 = .ok (.invokevirtual 15, 3) := by decide +kernel
theorem dX6_sayTells_6 : decode cX6_sayTells 6 = .ok (.aload_n 0, 1) := by decide +kernel
theorem dX6_sayTells_7 : decode cX6_sayTells 7 = .ok (.iload_n 1, 1) := by decide +kernel
theorem dX6_sayTells_8 : decode cX6_sayTells 8 = .ok (.aload_n 2, 1) := by decide +kernel
theorem dX6_sayTells_9 : decode cX6_sayTells 9 = .ok (.invokespecial 21, 3) := by decide +kernel
theorem dX6_sayTells_12 : decode cX6_sayTells 12 = .ok (.aload_n 0, 1) := by decide +kernel
theorem dX6_sayTells_13 : decode cX6_sayTells 13 = .ok (.iconst 2, 1) := by decide +kernel
theorem dX6_sayTells_14 : decode cX6_sayTells 14 = .ok (.aload_n 2, 1) := by decide +kernel
theorem dX6_sayTells_15 : decode cX6_sayTells 15 = .ok (.invokevirtual 25, 3) := by decide +kernel
theorem dX6_sayTells_18 : decode cX6_sayTells 18 = .ok (.isub, 1) := by decide +kernel
theorem dX6_sayTells_19 : decode cX6_sayTells 19 = .ok (.ireturn, 1) := by decide +kernel
theorem dX7_copy_0 : decode cX7_copy 0 = .ok (.aload_n 0, 1) := by decide +kernel
theorem dX7_copy_1 : decode cX7_copy 1 = .ok (.getfield 12, 3) := by decide +kernel
theorem dX7_copy_4 : decode cX7_copy 4 = .ok (.aload_n 1, 1) := by decide +kernel
theorem dX7_copy_5 : decode cX7_copy 5 = .ok (.getfield 12, 3) := by decide +kernel
theorem dX7_copy_8 : decode cX7_copy 8 = .ok (.invokevirtual 47, 3) := by decide +kernel
theorem dX7_copy_11 : decode cX7_copy 11 = .ok (.aload_n 0, 1) := by decide +kernel
theorem dX7_copy_12 : decode cX7_copy 12 = .ok (.aload_n 1, 1) := by decide +kernel
theorem dX7_copy_13 : decode cX7_copy 13 = .ok (.getfield 51, 3) := by decide +kernel
theorem dX7_copy_16 : decode cX7_copy 16 = .ok (.putfield 51, 3) := by decide +kernel
theorem dX7_copy_19 : decode cX7_copy 19 = .ok (.aload_n 1, 1) := by decide +kernel
theorem dX7_copy_20 : decode cX7_copy 20 = .ok (.getfield 18, 3) := by decide +kernel
theorem dX7_copy_23 : decode cX7_copy 23 = .ok (.iconst 0, 1) := by decide +kernel
theorem dX7_copy_24 : decode cX7_copy 24 = .ok (.aload_n 0, 1) := by decide +kernel
theorem dX7_copy_25 : decode cX7_copy 25 = .ok (.getfield 18, 3) := by decide +kernel
theorem dX7_copy_28 : decode cX7_copy 28 = .ok (.iconst 0, 1) := by decide +kernel
theorem dX7_copy_29 : decode cX7_copy 29 = .ok (.bipush 6, 2) := by decide +kernel
theorem dX7_copy_31 : decode cX7_copy 31 = .ok (.invokestatic 54, 3) := by decide +kernel
theorem dX7_copy_34 : decode cX7_copy 34 = .ok (.aload_n 1, 1) := by decide +kernel
theorem dX7_copy_35 : decode cX7_copy 35 = .ok (.getfield 22, 3) := by decide +kernel
theorem dX7_copy_38 : decode cX7_copy 38 = .ok (.iconst 0, 1) := by decide +kernel
theorem dX7_copy_39 : decode cX7_copy 39 = .ok (.aload_n 0, 1) := by decide +kernel
theorem dX7_copy_40 : decode cX7_copy 40 = .ok (.getfield 22, 3) := by decide +kernel
theorem dX7_copy_43 : decode cX7_copy 43 = .ok (.iconst 0, 1) := by decide +kernel
theorem dX7_copy_44 : decode cX7_copy 44 = .ok (.bipush 6, 2) := by decide +kernel
theorem dX7_copy_46 : decode cX7_copy 46 = .ok (.invokestatic 54, 3) := by decide +kernel
theorem dX7_copy_49 : decode cX7_copy 49 = .ok (.aload_n 1, 1) := by decide +kernel
theorem dX7_copy_50 : decode cX7_copy 50 = .ok (.getfield 25, 3) := by decide +kernel
theorem dX7_copy_53 : decode cX7_copy 53 = .ok (.iconst 0, 1) := by decide +kernel
theorem dX7_copy_54 : decode cX7_copy 54 = .ok (.aload_n 0, 1) := by decide +kernel
theorem dX7_copy_55 : decode cX7_copy 55 = .ok (.getfield 25, 3) := by decide +kernel
theorem dX7_copy_58 : decode cX7_copy 58 = .ok (.iconst 0, 1) := by decide +kernel
theorem dX7_copy_59 : decode cX7_copy 59 = .ok (.bipush 50, 2) := by decide +kernel
theorem dX7_copy_61 : decode cX7_copy 61 = .ok (.invokestatic 54, 3) := by decide +kernel
theorem dX7_copy_64 : decode cX7_copy 64 = .ok (.aload_n 0, 1) := by decide +kernel
theorem dX7_copy_65 : decode cX7_copy 65 = .ok (.aload_n 1, 1) := by decide +kernel
theorem dX7_copy_66 : decode cX7_copy 66 = .ok (.getfield 60, 3) := by decide +kernel
theorem dX7_copy_69 : decode cX7_copy 69 = .ok (.putfield 60, 3) := by decide +kernel
theorem dX7_copy_72 : decode cX7_copy 72 = .ok (.aload_n 0, 1) := by decide +kernel
theorem dX7_copy_73 : decode cX7_copy 73 = .ok (.getfield 40, 3) := by decide +kernel
theorem dX7_copy_76 : decode cX7_copy 76 = .ok (.aload_n 1, 1) := by decide +kernel
theorem dX7_copy_77 : decode cX7_copy 77 = .ok (.getfield 40, 3) := by decide +kernel
theorem dX7_copy_80 : decode cX7_copy 80 = .ok (.invokevirtual 63, 3) := by decide +kernel
theorem dX7_copy_83 : decode cX7_copy 83 = .ok (.aload_n 0, 1) := by decide +kernel
theorem dX7_copy_84 : decode cX7_copy 84 = .ok (.getfield 44, 3) := by decide +kernel
theorem dX7_copy_87 : decode cX7_copy 87 = .ok (.aload_n 1, 1) := by decide +kernel
theorem dX7_copy_88 : decode cX7_copy 88 = .ok (.getfield 44, 3) := by decide +kernel
theorem dX7_copy_91 : decode cX7_copy 91 = .ok (.invokevirtual 63, 3) := by decide +kernel
theorem dX7_copy_94 : decode cX7_copy 94 = .ok (.aload_n 0, 1) := by decide +kernel
theorem dX7_copy_95 : decode cX7_copy 95 = .ok (.aload_n 1, 1) := by decide +kernel
theorem dX7_copy_96 : decode cX7_copy 96 = .ok (.getfield 28, 3) := by decide +kernel
theorem dX7_copy_99 : decode cX7_copy 99 = .ok (.putfield 28, 3) := by decide +kernel
theorem dX7_copy_102 : decode cX7_copy 102 = .ok (.aload_n 1, 1) := by decide +kernel
theorem dX7_copy_103 : decode cX7_copy 103 = .ok (.getfield 32, 3) := by decide +kernel
theorem dX7_copy_106 : decode cX7_copy 106 = .ok (.iconst 0, 1) := by decide +kernel
theorem dX7_copy_107 : decode cX7_copy 107 = .ok (.aload_n 0, 1) := by decide +kernel
theorem dX7_copy_108 : decode cX7_copy 108 = .ok (.getfield 32, 3) := by decide +kernel
theorem dX7_copy_111 : decode cX7_copy 111 = .ok (.iconst 0, 1) := by decide +kernel
theorem dX7_copy_112 : decode cX7_copy 112 = .ok (.bipush 20, 2) := by decide +kernel
theorem dX7_copy_114 : decode cX7_copy 114 = .ok (.invokestatic 54, 3) := by decide +kernel
theorem dX7_copy_117 : decode cX7_copy 117 = .ok (.aload_n 0, 1) := by decide +kernel
theorem dX7_copy_118 : decode cX7_copy 118 = .ok (.aload_n 1, 1) := by decide +kernel
theorem dX7_copy_119 : decode cX7_copy 119 = .ok (.getfield 66, 3) := by decide +kernel
theorem dX7_copy_122 : decode cX7_copy 122 = .ok (.putfield 66, 3) := by decide +kernel
theorem dX7_copy_125 : decode cX7_copy 125 = .ok (.return_, 1) := by decide +kernel
theorem dX7_addByte_0 : decode cX7_addByte 0 = .ok (.aload_n 0, 1) := by decide +kernel
theorem dX7_addByte_1 : decode cX7_addByte 1 = .ok (.getfield 60, 3) := by decide +kernel
theorem dX7_addByte_4 : decode cX7_addByte 4 = .ok (.iconst 0, 1) := by decide +kernel
theorem dX7_addByte_5 : decode cX7_addByte 5 = .ok (.bipush 49, 2) := by decide +kernel
theorem dX7_addByte_7 : decode cX7_addByte 7 = .ok (.invokestatic 69, 3) := by decide +kernel
theorem dX7_addByte_10 : decode cX7_addByte 10 = .ok (.ifCond .eq 23, 3) := by decide +kernel
theorem dX7_addByte_13 : decode cX7_addByte 13 = .ok (.aload_n 0, 1) := by decide +kernel
theorem dX7_addByte_14 : decode cX7_addByte 14 = .ok (.getfield 25, 3) := by decide +kernel
theorem dX7_addByte_17 : decode cX7_addByte 17 = .ok (.aload_n 0, 1) := by decide +kernel
theorem dX7_addByte_18 : decode cX7_addByte 18 = .ok (.getfield 60, 3) := by decide +kernel
theorem dX7_addByte_21 : decode cX7_addByte 21 = .ok (.iload_n 1, 1) := by decide +kernel
theorem dX7_addByte_22 : decode cX7_addByte 22 = .ok (.iastore, 1) := by decide +kernel
theorem dX7_addByte_23 : decode cX7_addByte 23 = .ok (.aload_n 0, 1) := by decide +kernel
theorem dX7_addByte_24 : decode cX7_addByte 24 = .ok (.dup, 1) := by decide +kernel
theorem dX7_addByte_25 : decode cX7_addByte 25 = .ok (.getfield 60, 3) := by decide +kernel
theorem dX7_addByte_28 : decode cX7_addByte 28 = .ok (.iconst 1, 1) := by decide +kernel
theorem dX7_addByte_29 : decode cX7_addByte 29 = .ok (.iadd, 1) := by decide +kernel
theorem dX7_addByte_30 : decode cX7_addByte 30 = .ok (.putfield 60, 3) := by decide +kernel
theorem dX7_addByte_33 : decode cX7_addByte 33 = .ok (.return_, 1) := by decide +kernel
theorem dX7_draw_0 : decode cX7_draw 0 = .ok (.aload_n 0, 1) := by decide +kernel
theorem dX7_draw_1 : decode cX7_draw 1 = .ok (.aload_n 0, 1) := by decide +kernel
theorem dX7_draw_2 : decode cX7_draw 2 = .ok (.getfield 28, 3) := by decide +kernel
theorem dX7_draw_5 : decode cX7_draw 5 = .ok (.ldc 73, 2) := by decide +kernel
theorem dX7_draw_7 : decode cX7_draw 7 = .ok (.imul, 1) := by decide +kernel
theorem dX7_draw_8 : decode cX7_draw 8 = .ok (.sipush 12345, 3) := by decide +kernel
theorem dX7_draw_11 : decode cX7_draw 11 = .ok (.iadd, 1) := by decide +kernel
theorem dX7_draw_12 : decode cX7_draw 12 = .ok (.putfield 28, 3) := by decide +kernel
theorem dX7_draw_15 : decode cX7_draw 15 = .ok (.iload_n 1, 1) := by decide +kernel
theorem dX7_draw_16 : decode cX7_draw 16 = .ok (.ifCond .le 15, 3) := by decide +kernel
theorem dX7_draw_19 : decode cX7_draw 19 = .ok (.aload_n 0, 1) := by decide +kernel
theorem dX7_draw_20 : decode cX7_draw 20 = .ok (.getfield 28, 3) := by decide +kernel
theorem dX7_draw_23 : decode cX7_draw 23 = .ok (.bipush 8, 2) := by decide +kernel
theorem dX7_draw_25 : decode cX7_draw 25 = .ok (.iushr, 1) := by decide +kernel
theorem dX7_draw_26 : decode cX7_draw 26 = .ok (.iload_n 1, 1) := by decide +kernel
theorem dX7_draw_27 : decode cX7_draw 27 = .ok (.irem, 1) := by decide +kernel
theorem dX7_draw_28 : decode cX7_draw 28 = .ok (.goto 4, 3) := by decide +kernel
theorem dX7_draw_31 : decode cX7_draw 31 = .ok (.iconst 0, 1) := by decide +kernel
theorem dX7_draw_32 : decode cX7_draw 32 = .ok (.ireturn, 1) := by decide +kernel
theorem dX8_isA_0 : decode cX8_isA 0 = .ok (.iload_n 1, 1) := by decide +kernel
theorem dX8_isA_1 : decode cX8_isA 1 = .ok (.ifCond .ne 7, 3) := by decide +kernel
theorem dX8_isA_4 : decode cX8_isA 4 = .ok (.iconst 1, 1) := by decide +kernel
theorem dX8_isA_5 : decode cX8_isA 5 = .ok (.goto 4, 3) := by decide +kernel
theorem dX8_isA_8 : decode cX8_isA 8 = .ok (.iconst 0, 1) := by decide +kernel
theorem dX8_isA_9 : decode cX8_isA 9 = .ok (.ireturn, 1) := by decide +kernel
theorem dX8_moves_0 : decode cX8_moves 0 = .ok (.iload_n 2, 1) := by decide +kernel
theorem dX8_moves_1 : decode cX8_moves 1 = .ok (.ireturn, 1) := by decide +kernel
theorem dX8_reach_0 : decode cX8_reach 0 = .ok (.iconst 1, 1) := by decide +kernel
theorem dX8_reach_1 : decode cX8_reach 1 = .ok (.ireturn, 1) := by decide +kernel
theorem dX8_lets_0 : decode cX8_lets 0 = .ok (.iconst 0, 1) := by decide +kernel
theorem dX8_lets_1 : decode cX8_lets 1 = .ok (.ireturn, 1) := by decide +kernel
theorem dX8_tears_0 : decode cX8_tears 0 = .ok (.iconst 0, 1) := by decide +kernel
theorem dX8_tears_1 : decode cX8_tears 1 = .ok (.ireturn, 1) := by decide +kernel
theorem dX8_sayMoves_0 : decode cX8_sayMoves 0 = .ok (.aload_n 2, 1) := by decide +kernel
theorem dX8_sayMoves_1 : decode cX8_sayMoves 1 = .ok (.bipush 10, 2) := by decide +kernel
theorem dX8_sayMoves_3 : decode cX8_sayMoves 3 = .ok (.invokevirtual 7, 3) := by decide +kernel
theorem dX8_sayMoves_6 : decode cX8_sayMoves 6 = .ok (.iload_n 1, 1) := by decide +kernel
theorem dX8_sayMoves_7 : decode cX8_sayMoves 7 = .ok (.aload_n 2, 1) := by decide +kernel
theorem dX8_sayMoves_8 : decode cX8_sayMoves 8 = .ok (.getfield 13, 3) := by decide +kernel
theorem dX8_sayMoves_11 : decode cX8_sayMoves 11 = .ok (.iadd, 1) := by decide +kernel
theorem dX8_sayMoves_12 : decode cX8_sayMoves 12 = .ok (.ireturn, 1) := by decide +kernel
theorem dX8_sayLets_0 : decode cX8_sayLets 0 = .ok (.aload_n 2, 1) := by decide +kernel
theorem dX8_sayLets_1 : decode cX8_sayLets 1 = .ok (.bipush 11, 2) := by decide +kernel
theorem dX8_sayLets_3 : decode cX8_sayLets 3 = .ok (.invokevirtual 7, 3) := by decide +kernel
theorem dX8_sayLets_6 : decode cX8_sayLets 6 = .ok (.aload_n 0, 1) := by decide +kernel
theorem dX8_sayLets_7 : decode cX8_sayLets 7 = .ok (.iload_n 1, 1) := by decide +kernel
theorem dX8_sayLets_8 : decode cX8_sayLets 8 = .ok (.aload_n 2, 1) := by decide +kernel
theorem dX8_sayLets_9 : decode cX8_sayLets 9 = .ok (.invokevirtual 17, 3) := by decide +kernel
theorem dX8_sayLets_12 : decode cX8_sayLets 12 = .ok (.iconst 2, 1) := by decide +kernel
theorem dX8_sayLets_13 : decode cX8_sayLets 13 = .ok (.imul, 1) := by decide +kernel
theorem dX8_sayLets_14 : decode cX8_sayLets 14 = .ok (.ireturn, 1) := by decide +kernel
theorem dX8_sayTears_0 : decode cX8_sayTears 0 = .ok (.aload_n 2, 1) := by decide +kernel
theorem dX8_sayTears_1 : decode cX8_sayTears 1 = .ok (.bipush 12, 2) := by decide +kernel
theorem dX8_sayTears_3 : decode cX8_sayTears 3 = .ok (.invokevirtual 7, 3) := by decide +kernel
theorem dX8_sayTears_6 : decode cX8_sayTears 6 = .ok (.iload_n 1, 1) := by decide +kernel
theorem dX8_sayTears_7 : decode cX8_sayTears 7 = .ok (.aload_n 2, 1) := by decide +kernel
theorem dX8_sayTears_8 : decode cX8_sayTears 8 = .ok (.getfield 23, 3) := by decide +kernel
theorem dX8_sayTears_11 : decode cX8_sayTears 11 = .ok (.isub, 1) := by decide +kernel
theorem dX8_sayTears_12 : decode cX8_sayTears 12 = .ok (.ireturn, 1) := by decide +kernel
theorem dX8_sayTells_0 : decode cX8_sayTells 0 = .ok (.aload_n 2, 1) := by decide +kernel
theorem dX8_sayTells_1 : decode cX8_sayTells 1 = .ok (.bipush 13, 2) := by decide +kernel
theorem dX8_sayTells_3 : decode cX8_sayTells 3 = .ok (.invokevirtual 7, 3) := by decide +kernel
theorem dX8_sayTells_6 : decode cX8_sayTells 6 = .ok (.aload_n 0, 1) := by decide +kernel
theorem dX8_sayTells_7 : decode cX8_sayTells 7 = .ok (.iload_n 1, 1) := by decide +kernel
theorem dX8_sayTells_8 : decode cX8_sayTells 8 = .ok (.aload_n 2, 1) := by decide +kernel
theorem dX8_sayTells_9 : decode cX8_sayTells 9 = .ok (.invokevirtual 26, 3) := by decide +kernel
theorem dX8_sayTells_12 : decode cX8_sayTells 12 = .ok (.aload_n 0, 1) := by decide +kernel
theorem dX8_sayTells_13 : decode cX8_sayTells 13 = .ok (.iload_n 1, 1) := by decide +kernel
theorem dX8_sayTells_14 : decode cX8_sayTells 14 = .ok (.aload_n 2, 1) := by decide +kernel
theorem dX8_sayTells_15 : decode cX8_sayTells 15 = .ok (.invokevirtual 29, 3) := by decide +kernel
theorem dX8_sayTells_18 : decode cX8_sayTells 18 = .ok (.ixor, 1) := by decide +kernel
theorem dX8_sayTells_19 : decode cX8_sayTells 19 = .ok (.ireturn, 1) := by decide +kernel
theorem dX9_start_0 : decode cX9_start 0 = .ok (.aload_n 0, 1) := by decide +kernel
theorem dX9_start_1 : decode cX9_start 1 = .ok (.iload_n 1, 1) := by decide +kernel
theorem dX9_start_2 : decode cX9_start 2 = .ok (.putfield 15, 3) := by decide +kernel
theorem dX9_start_5 : decode cX9_start 5 = .ok (.aload_n 0, 1) := by decide +kernel
theorem dX9_start_6 : decode cX9_start 6 = .ok (.iload_n 2, 1) := by decide +kernel
theorem dX9_start_7 : decode cX9_start 7 = .ok (.putfield 19, 3) := by decide +kernel
theorem dX9_start_10 : decode cX9_start 10 = .ok (.aload_n 0, 1) := by decide +kernel
theorem dX9_start_11 : decode cX9_start 11 = .ok (.iconst 0, 1) := by decide +kernel
theorem dX9_start_12 : decode cX9_start 12 = .ok (.putfield 22, 3) := by decide +kernel
theorem dX9_start_15 : decode cX9_start 15 = .ok (.return_, 1) := by decide +kernel
theorem dX9_begin_0 : decode cX9_begin 0 = .ok (.aload_n 0, 1) := by decide +kernel
theorem dX9_begin_1 : decode cX9_begin 1 = .ok (.getfield 22, 3) := by decide +kernel
theorem dX9_begin_4 : decode cX9_begin 4 = .ok (.ifCond .lt 32, 3) := by decide +kernel
theorem dX9_begin_7 : decode cX9_begin 7 = .ok (.aload_n 0, 1) := by decide +kernel
theorem dX9_begin_8 : decode cX9_begin 8 = .ok (.getfield 22, 3) := by decide +kernel
theorem dX9_begin_11 : decode cX9_begin 11 = .ok (.bipush 40, 2) := by decide +kernel
theorem dX9_begin_13 : decode cX9_begin 13 = .ok (.if_icmp .ge 23, 3) := by decide +kernel
theorem dX9_begin_16 : decode cX9_begin 16 = .ok (.aload_n 0, 1) := by decide +kernel
theorem dX9_begin_17 : decode cX9_begin 17 = .ok (.getfield 9, 3) := by decide +kernel
theorem dX9_begin_20 : decode cX9_begin 20 = .ok (.aload_n 0, 1) := by decide +kernel
theorem dX9_begin_21 : decode cX9_begin 21 = .ok (.getfield 22, 3) := by decide +kernel
theorem dX9_begin_24 : decode cX9_begin 24 = .ok (.iload_n 1, 1) := by decide +kernel
theorem dX9_begin_25 : decode cX9_begin 25 = .ok (.iastore, 1) := by decide +kernel
theorem dX9_begin_26 : decode cX9_begin 26 = .ok (.aload_n 0, 1) := by decide +kernel
theorem dX9_begin_27 : decode cX9_begin 27 = .ok (.dup, 1) := by decide +kernel
theorem dX9_begin_28 : decode cX9_begin 28 = .ok (.getfield 22, 3) := by decide +kernel
theorem dX9_begin_31 : decode cX9_begin 31 = .ok (.iconst 1, 1) := by decide +kernel
theorem dX9_begin_32 : decode cX9_begin 32 = .ok (.iadd, 1) := by decide +kernel
theorem dX9_begin_33 : decode cX9_begin 33 = .ok (.putfield 22, 3) := by decide +kernel
theorem dX9_begin_36 : decode cX9_begin 36 = .ok (.return_, 1) := by decide +kernel
