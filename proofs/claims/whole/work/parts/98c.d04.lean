theorem dX12_seenOf_73 : decode cX12_seenOf 73 = .ok (.iload_n 2, 1) := by decide +kernel
theorem dX12_seenOf_74 : decode cX12_seenOf 74 = .ok (.iload_n 3, 1) := by decide +kernel
theorem dX12_seenOf_75 : decode cX12_seenOf 75 = .ok (.iastore, 1) := by decide +kernel
theorem dX12_seenOf_76 : decode cX12_seenOf 76 = .ok (.iload_n 3, 1) := by decide +kernel
theorem dX12_seenOf_77 : decode cX12_seenOf 77 = .ok (.ireturn, 1) := by decide +kernel
theorem dX12_movedOf_0 : decode cX12_movedOf 0 = .ok (.bipush 10, 2) := by decide +kernel
theorem dX12_movedOf_2 : decode cX12_movedOf 2 = .ok (.iload_n 2, 1) := by decide +kernel
theorem dX12_movedOf_3 : decode cX12_movedOf 3 = .ok (.imul, 1) := by decide +kernel
theorem dX12_movedOf_4 : decode cX12_movedOf 4 = .ok (.iload_n 3, 1) := by decide +kernel
theorem dX12_movedOf_5 : decode cX12_movedOf 5 = .ok (.iadd, 1) := by decide +kernel
theorem dX12_movedOf_6 : decode cX12_movedOf 6 = .ok (.istore 4, 2) := by decide +kernel
theorem dX12_movedOf_8 : decode cX12_movedOf 8 = .ok (.aload_n 0, 1) := by decide +kernel
theorem dX12_movedOf_9 : decode cX12_movedOf 9 = .ok (.getfield 144, 3) := by decide +kernel
theorem dX12_movedOf_12 : decode cX12_movedOf 12 = .ok (.ifCond .eq 21, 3) := by decide +kernel
theorem dX12_movedOf_15 : decode cX12_movedOf 15 = .ok (.aload_n 0, 1) := by decide +kernel
theorem dX12_movedOf_16 : decode cX12_movedOf 16 = .ok (.getfield 28, 3) := by decide +kernel
theorem dX12_movedOf_19 : decode cX12_movedOf 19 = .ok (.iload 4, 2) := by decide +kernel
theorem dX12_movedOf_21 : decode cX12_movedOf 21 = .ok (.iaload, 1) := by decide +kernel
theorem dX12_movedOf_22 : decode cX12_movedOf 22 = .ok (.ifCond .lt 11, 3) := by decide +kernel
theorem dX12_movedOf_25 : decode cX12_movedOf 25 = .ok (.aload_n 0, 1) := by decide +kernel
theorem dX12_movedOf_26 : decode cX12_movedOf 26 = .ok (.getfield 28, 3) := by decide +kernel
theorem dX12_movedOf_29 : decode cX12_movedOf 29 = .ok (.iload 4, 2) := by decide +kernel
theorem dX12_movedOf_31 : decode cX12_movedOf 31 = .ok (.iaload, 1) := by decide +kernel
theorem dX12_movedOf_32 : decode cX12_movedOf 32 = .ok (.ireturn, 1) := by decide +kernel
theorem dX12_movedOf_33 : decode cX12_movedOf 33 = .ok (.aload_n 0, 1) := by decide +kernel
theorem dX12_movedOf_34 : decode cX12_movedOf 34 = .ok (.iconst 0, 1) := by decide +kernel
theorem dX12_movedOf_35 : decode cX12_movedOf 35 = .ok (.iload_n 2, 1) := by decide +kernel
theorem dX12_movedOf_36 : decode cX12_movedOf 36 = .ok (.iload_n 3, 1) := by decide +kernel
theorem dX12_movedOf_37 : decode cX12_movedOf 37 = .ok (.aload_n 0, 1) := by decide +kernel
theorem dX12_movedOf_38 : decode cX12_movedOf 38 = .ok (.iload_n 1, 1) := by decide +kernel
theorem dX12_movedOf_39 : decode cX12_movedOf 39 = .ok (.invokevirtual 147, 3) := by decide +kernel
theorem dX12_movedOf_42 : decode cX12_movedOf 42 = .ok (.invokevirtual 131, 3) := by decide +kernel
theorem dX12_movedOf_45 : decode cX12_movedOf 45 = .ok (.istore 5, 2) := by decide +kernel
theorem dX12_movedOf_47 : decode cX12_movedOf 47 = .ok (.aload_n 0, 1) := by decide +kernel
theorem dX12_movedOf_48 : decode cX12_movedOf 48 = .ok (.getfield 28, 3) := by decide +kernel
theorem dX12_movedOf_51 : decode cX12_movedOf 51 = .ok (.iload 4, 2) := by decide +kernel
theorem dX12_movedOf_53 : decode cX12_movedOf 53 = .ok (.iload 5, 2) := by decide +kernel
theorem dX12_movedOf_55 : decode cX12_movedOf 55 = .ok (.iastore, 1) := by decide +kernel
theorem dX12_movedOf_56 : decode cX12_movedOf 56 = .ok (.iload 5, 2) := by decide +kernel
theorem dX12_movedOf_58 : decode cX12_movedOf 58 = .ok (.ireturn, 1) := by decide +kernel
theorem dX12_seen_0 : decode cX12_seen 0 = .ok (.iconst 0, 1) := by decide +kernel
theorem dX12_seen_1 : decode cX12_seen 1 = .ok (.istore_n 1, 1) := by decide +kernel
theorem dX12_seen_2 : decode cX12_seen 2 = .ok (.iconst 0, 1) := by decide +kernel
theorem dX12_seen_3 : decode cX12_seen 3 = .ok (.istore_n 2, 1) := by decide +kernel
theorem dX12_seen_4 : decode cX12_seen 4 = .ok (.iload_n 2, 1) := by decide +kernel
theorem dX12_seen_5 : decode cX12_seen 5 = .ok (.aload_n 0, 1) := by decide +kernel
theorem dX12_seen_6 : decode cX12_seen 6 = .ok (.invokevirtual 51, 3) := by decide +kernel
theorem dX12_seen_9 : decode cX12_seen 9 = .ok (.if_icmp .ge 17, 3) := by decide +kernel
theorem dX12_seen_12 : decode cX12_seen 12 = .ok (.iload_n 1, 1) := by decide +kernel
theorem dX12_seen_13 : decode cX12_seen 13 = .ok (.aload_n 0, 1) := by decide +kernel
theorem dX12_seen_14 : decode cX12_seen 14 = .ok (.iload_n 2, 1) := by decide +kernel
theorem dX12_seen_15 : decode cX12_seen 15 = .ok (.invokevirtual 150, 3) := by decide +kernel
theorem dX12_seen_18 : decode cX12_seen 18 = .ok (.iadd, 1) := by decide +kernel
theorem dX12_seen_19 : decode cX12_seen 19 = .ok (.istore_n 1, 1) := by decide +kernel
theorem dX12_seen_20 : decode cX12_seen 20 = .ok (.iinc 2 1, 3) := by decide +kernel
theorem dX12_seen_23 : decode cX12_seen 23 = .ok (.goto (-19), 3) := by decide +kernel
theorem dX12_seen_26 : decode cX12_seen 26 = .ok (.iload_n 1, 1) := by decide +kernel
theorem dX12_seen_27 : decode cX12_seen 27 = .ok (.ireturn, 1) := by decide +kernel
theorem dX12_shown_0 : decode cX12_shown 0 = .ok (.aload_n 0, 1) := by decide +kernel
theorem dX12_shown_1 : decode cX12_shown 1 = .ok (.invokevirtual 153, 3) := by decide +kernel
theorem dX12_shown_4 : decode cX12_shown 4 = .ok (.ireturn, 1) := by decide +kernel
theorem dX12_allAir_0 : decode cX12_allAir 0 = .ok (.iconst 0, 1) := by decide +kernel
theorem dX12_allAir_1 : decode cX12_allAir 1 = .ok (.istore_n 1, 1) := by decide +kernel
theorem dX12_allAir_2 : decode cX12_allAir 2 = .ok (.iconst 0, 1) := by decide +kernel
theorem dX12_allAir_3 : decode cX12_allAir 3 = .ok (.istore_n 2, 1) := by decide +kernel
theorem dX12_allAir_4 : decode cX12_allAir 4 = .ok (.iload_n 2, 1) := by decide +kernel
theorem dX12_allAir_5 : decode cX12_allAir 5 = .ok (.aload_n 0, 1) := by decide +kernel
theorem dX12_allAir_6 : decode cX12_allAir 6 = .ok (.invokevirtual 51, 3) := by decide +kernel
theorem dX12_allAir_9 : decode cX12_allAir 9 = .ok (.if_icmp .ge 21, 3) := by decide +kernel
theorem dX12_allAir_12 : decode cX12_allAir 12 = .ok (.iload_n 1, 1) := by decide +kernel
theorem dX12_allAir_13 : decode cX12_allAir 13 = .ok (.aload_n 0, 1) := by decide +kernel
theorem dX12_allAir_14 : decode cX12_allAir 14 = .ok (.getfield 7, 3) := by decide +kernel
theorem dX12_allAir_17 : decode cX12_allAir 17 = .ok (.bipush 10, 2) := by decide +kernel
theorem dX12_allAir_19 : decode cX12_allAir 19 = .ok (.iload_n 2, 1) := by decide +kernel
theorem dX12_allAir_20 : decode cX12_allAir 20 = .ok (.iadd, 1) := by decide +kernel
theorem dX12_allAir_21 : decode cX12_allAir 21 = .ok (.iaload, 1) := by decide +kernel
theorem dX12_allAir_22 : decode cX12_allAir 22 = .ok (.iadd, 1) := by decide +kernel
theorem dX12_allAir_23 : decode cX12_allAir 23 = .ok (.istore_n 1, 1) := by decide +kernel
theorem dX12_allAir_24 : decode cX12_allAir 24 = .ok (.iinc 2 1, 3) := by decide +kernel
theorem dX12_allAir_27 : decode cX12_allAir 27 = .ok (.goto (-23), 3) := by decide +kernel
theorem dX12_allAir_30 : decode cX12_allAir 30 = .ok (.iload_n 1, 1) := by decide +kernel
theorem dX12_allAir_31 : decode cX12_allAir 31 = .ok (.ireturn, 1) := by decide +kernel
theorem dX12_nextTo_0 : decode cX12_nextTo 0 = .ok (.iload_n 1, 1) := by decide +kernel
theorem dX12_nextTo_1 : decode cX12_nextTo 1 = .ok (.aload_n 0, 1) := by decide +kernel
theorem dX12_nextTo_2 : decode cX12_nextTo 2 = .ok (.getfield 7, 3) := by decide +kernel
theorem dX12_nextTo_5 : decode cX12_nextTo 5 = .ok (.iconst 1, 1) := by decide +kernel
theorem dX12_nextTo_6 : decode cX12_nextTo 6 = .ok (.iaload, 1) := by decide +kernel
theorem dX12_nextTo_7 : decode cX12_nextTo 7 = .ok (.idiv, 1) := by decide +kernel
theorem dX12_nextTo_8 : decode cX12_nextTo 8 = .ok (.iload_n 2, 1) := by decide +kernel
theorem dX12_nextTo_9 : decode cX12_nextTo 9 = .ok (.ifCond .ne 7, 3) := by decide +kernel
theorem dX12_nextTo_12 : decode cX12_nextTo 12 = .ok (.iconst (-1), 1) := by decide +kernel
theorem dX12_nextTo_13 : decode cX12_nextTo 13 = .ok (.goto 13, 3) := by decide +kernel
theorem dX12_nextTo_16 : decode cX12_nextTo 16 = .ok (.iload_n 2, 1) := by decide +kernel
theorem dX12_nextTo_17 : decode cX12_nextTo 17 = .ok (.iconst 2, 1) := by decide +kernel
theorem dX12_nextTo_18 : decode cX12_nextTo 18 = .ok (.if_icmp .ne 7, 3) := by decide +kernel
theorem dX12_nextTo_21 : decode cX12_nextTo 21 = .ok (.iconst 1, 1) := by decide +kernel
theorem dX12_nextTo_22 : decode cX12_nextTo 22 = .ok (.goto 4, 3) := by decide +kernel
theorem dX12_nextTo_25 : decode cX12_nextTo 25 = .ok (.iconst 0, 1) := by decide +kernel
theorem dX12_nextTo_26 : decode cX12_nextTo 26 = .ok (.iadd, 1) := by decide +kernel
theorem dX12_nextTo_27 : decode cX12_nextTo 27 = .ok (.istore_n 3, 1) := by decide +kernel
theorem dX12_nextTo_28 : decode cX12_nextTo 28 = .ok (.iload_n 1, 1) := by decide +kernel
theorem dX12_nextTo_29 : decode cX12_nextTo 29 = .ok (.aload_n 0, 1) := by decide +kernel
theorem dX12_nextTo_30 : decode cX12_nextTo 30 = .ok (.getfield 7, 3) := by decide +kernel
theorem dX12_nextTo_33 : decode cX12_nextTo 33 = .ok (.iconst 1, 1) := by decide +kernel
theorem dX12_nextTo_34 : decode cX12_nextTo 34 = .ok (.iaload, 1) := by decide +kernel
theorem dX12_nextTo_35 : decode cX12_nextTo 35 = .ok (.irem, 1) := by decide +kernel
theorem dX12_nextTo_36 : decode cX12_nextTo 36 = .ok (.iload_n 2, 1) := by decide +kernel
theorem dX12_nextTo_37 : decode cX12_nextTo 37 = .ok (.iconst 1, 1) := by decide +kernel
theorem dX12_nextTo_38 : decode cX12_nextTo 38 = .ok (.if_icmp .ne 7, 3) := by decide +kernel
theorem dX12_nextTo_41 : decode cX12_nextTo 41 = .ok (.iconst 1, 1) := by decide +kernel
theorem dX12_nextTo_42 : decode cX12_nextTo 42 = .ok (.goto 13, 3) := by decide +kernel
theorem dX12_nextTo_45 : decode cX12_nextTo 45 = .ok (.iload_n 2, 1) := by decide +kernel
theorem dX12_nextTo_46 : decode cX12_nextTo 46 = .ok (.iconst 3, 1) := by decide +kernel
theorem dX12_nextTo_47 : decode cX12_nextTo 47 = .ok (.if_icmp .ne 7, 3) := by decide +kernel
theorem dX12_nextTo_50 : decode cX12_nextTo 50 = .ok (.iconst (-1), 1) := by decide +kernel
theorem dX12_nextTo_51 : decode cX12_nextTo 51 = .ok (.goto 4, 3) := by decide +kernel
theorem dX12_nextTo_54 : decode cX12_nextTo 54 = .ok (.iconst 0, 1) := by decide +kernel
theorem dX12_nextTo_55 : decode cX12_nextTo 55 = .ok (.iadd, 1) := by decide +kernel
theorem dX12_nextTo_56 : decode cX12_nextTo 56 = .ok (.istore 4, 2) := by decide +kernel
theorem dX12_nextTo_58 : decode cX12_nextTo 58 = .ok (.iload_n 3, 1) := by decide +kernel
theorem dX12_nextTo_59 : decode cX12_nextTo 59 = .ok (.i2l, 1) := by decide +kernel
theorem dX12_nextTo_60 : decode cX12_nextTo 60 = .ok (.lconst 0, 1) := by decide +kernel
theorem dX12_nextTo_61 : decode cX12_nextTo 61 = .ok (.aload_n 0, 1) := by decide +kernel
theorem dX12_nextTo_62 : decode cX12_nextTo 62 = .ok (.getfield 7, 3) := by decide +kernel
theorem dX12_nextTo_65 : decode cX12_nextTo 65 = .ok (.iconst 0, 1) := by decide +kernel
theorem dX12_nextTo_66 : decode cX12_nextTo 66 = .ok (.iaload, 1) := by decide +kernel
theorem dX12_nextTo_67 : decode cX12_nextTo 67 = .ok (.iconst 1, 1) := by decide +kernel
theorem dX12_nextTo_68 : decode cX12_nextTo 68 = .ok (.isub, 1) := by decide +kernel
theorem dX12_nextTo_69 : decode cX12_nextTo 69 = .ok (.i2l, 1) := by decide +kernel
theorem dX12_nextTo_70 : decode cX12_nextTo 70 = .ok (.invokestatic 55, 3) := by decide +kernel
theorem dX12_nextTo_73 : decode cX12_nextTo 73 = .ok (.ifCond .eq 36, 3) := by decide +kernel
theorem dX12_nextTo_76 : decode cX12_nextTo 76 = .ok (.iload 4, 2) := by decide +kernel
theorem dX12_nextTo_78 : decode cX12_nextTo 78 = .ok (.i2l, 1) := by decide +kernel
theorem dX12_nextTo_79 : decode cX12_nextTo 79 = .ok (.lconst 0, 1) := by decide +kernel
theorem dX12_nextTo_80 : decode cX12_nextTo 80 = .ok (.aload_n 0, 1) := by decide +kernel
theorem dX12_nextTo_81 : decode cX12_nextTo 81 = .ok (.getfield 7, 3) := by decide +kernel
theorem dX12_nextTo_84 : decode cX12_nextTo 84 = .ok (.iconst 1, 1) := by decide +kernel
theorem dX12_nextTo_85 : decode cX12_nextTo 85 = .ok (.iaload, 1) := by decide +kernel
theorem dX12_nextTo_86 : decode cX12_nextTo 86 = .ok (.iconst 1, 1) := by decide +kernel
theorem dX12_nextTo_87 : decode cX12_nextTo 87 = .ok (.isub, 1) := by decide +kernel
theorem dX12_nextTo_88 : decode cX12_nextTo 88 = .ok (.i2l, 1) := by decide +kernel
theorem dX12_nextTo_89 : decode cX12_nextTo 89 = .ok (.invokestatic 55, 3) := by decide +kernel
theorem dX12_nextTo_92 : decode cX12_nextTo 92 = .ok (.ifCond .eq 17, 3) := by decide +kernel
theorem dX12_nextTo_95 : decode cX12_nextTo 95 = .ok (.iload_n 3, 1) := by decide +kernel
theorem dX12_nextTo_96 : decode cX12_nextTo 96 = .ok (.aload_n 0, 1) := by decide +kernel
theorem dX12_nextTo_97 : decode cX12_nextTo 97 = .ok (.getfield 7, 3) := by decide +kernel
theorem dX12_nextTo_100 : decode cX12_nextTo 100 = .ok (.iconst 1, 1) := by decide +kernel
theorem dX12_nextTo_101 : decode cX12_nextTo 101 = .ok (.iaload, 1) := by decide +kernel
theorem dX12_nextTo_102 : decode cX12_nextTo 102 = .ok (.imul, 1) := by decide +kernel
theorem dX12_nextTo_103 : decode cX12_nextTo 103 = .ok (.iload 4, 2) := by decide +kernel
theorem dX12_nextTo_105 : decode cX12_nextTo 105 = .ok (.iadd, 1) := by decide +kernel
theorem dX12_nextTo_106 : decode cX12_nextTo 106 = .ok (.goto 4, 3) := by decide +kernel
theorem dX12_nextTo_109 : decode cX12_nextTo 109 = .ok (.iconst (-1), 1) := by decide +kernel
theorem dX12_nextTo_110 : decode cX12_nextTo 110 = .ok (.ireturn, 1) := by decide +kernel
theorem dX12_bubbleOf_0 : decode cX12_bubbleOf 0 = .ok (.iconst 1, 1) := by decide +kernel
theorem dX12_bubbleOf_1 : decode cX12_bubbleOf 1 = .ok (.iload_n 1, 1) := by decide +kernel
theorem dX12_bubbleOf_2 : decode cX12_bubbleOf 2 = .ok (.ishl, 1) := by decide +kernel
theorem dX12_bubbleOf_3 : decode cX12_bubbleOf 3 = .ok (.istore_n 2, 1) := by decide +kernel
theorem dX12_bubbleOf_4 : decode cX12_bubbleOf 4 = .ok (.iconst 0, 1) := by decide +kernel
theorem dX12_bubbleOf_5 : decode cX12_bubbleOf 5 = .ok (.istore_n 3, 1) := by decide +kernel
theorem dX12_bubbleOf_6 : decode cX12_bubbleOf 6 = .ok (.iload_n 2, 1) := by decide +kernel
theorem dX12_bubbleOf_7 : decode cX12_bubbleOf 7 = .ok (.iload_n 3, 1) := by decide +kernel
theorem dX12_bubbleOf_8 : decode cX12_bubbleOf 8 = .ok (.if_icmp .eq 99, 3) := by decide +kernel
theorem dX12_bubbleOf_11 : decode cX12_bubbleOf 11 = .ok (.iload_n 2, 1) := by decide +kernel
theorem dX12_bubbleOf_12 : decode cX12_bubbleOf 12 = .ok (.istore_n 3, 1) := by decide +kernel
theorem dX12_bubbleOf_13 : decode cX12_bubbleOf 13 = .ok (.iconst 0, 1) := by decide +kernel
theorem dX12_bubbleOf_14 : decode cX12_bubbleOf 14 = .ok (.istore 4, 2) := by decide +kernel
theorem dX12_bubbleOf_16 : decode cX12_bubbleOf 16 = .ok (.iload 4, 2) := by decide +kernel
theorem dX12_bubbleOf_18 : decode cX12_bubbleOf 18 = .ok (.aload_n 0, 1) := by decide +kernel
theorem dX12_bubbleOf_19 : decode cX12_bubbleOf 19 = .ok (.invokevirtual 51, 3) := by decide +kernel
theorem dX12_bubbleOf_22 : decode cX12_bubbleOf 22 = .ok (.if_icmp .ge 82, 3) := by decide +kernel
theorem dX12_bubbleOf_25 : decode cX12_bubbleOf 25 = .ok (.iconst 0, 1) := by decide +kernel
theorem dX12_bubbleOf_26 : decode cX12_bubbleOf 26 = .ok (.istore 5, 2) := by decide +kernel
theorem dX12_bubbleOf_28 : decode cX12_bubbleOf 28 = .ok (.iload 5, 2) := by decide +kernel
theorem dX12_bubbleOf_30 : decode cX12_bubbleOf 30 = .ok (.iconst 4, 1) := by decide +kernel
theorem dX12_bubbleOf_31 : decode cX12_bubbleOf 31 = .ok (.if_icmp .ge 67, 3) := by decide +kernel
theorem dX12_bubbleOf_34 : decode cX12_bubbleOf 34 = .ok (.iload_n 3, 1) := by decide +kernel
theorem dX12_bubbleOf_35 : decode cX12_bubbleOf 35 = .ok (.iload 4, 2) := by decide +kernel
theorem dX12_bubbleOf_37 : decode cX12_bubbleOf 37 = .ok (.ishr, 1) := by decide +kernel
theorem dX12_bubbleOf_38 : decode cX12_bubbleOf 38 = .ok (.iconst 1, 1) := by decide +kernel
theorem dX12_bubbleOf_39 : decode cX12_bubbleOf 39 = .ok (.iand, 1) := by decide +kernel
theorem dX12_bubbleOf_40 : decode cX12_bubbleOf 40 = .ok (.iconst 1, 1) := by decide +kernel
theorem dX12_bubbleOf_41 : decode cX12_bubbleOf 41 = .ok (.if_icmp .ne 57, 3) := by decide +kernel
theorem dX12_bubbleOf_44 : decode cX12_bubbleOf 44 = .ok (.aload_n 0, 1) := by decide +kernel
theorem dX12_bubbleOf_45 : decode cX12_bubbleOf 45 = .ok (.iload 4, 2) := by decide +kernel
theorem dX12_bubbleOf_47 : decode cX12_bubbleOf 47 = .ok (.iload 5, 2) := by decide +kernel
theorem dX12_bubbleOf_49 : decode cX12_bubbleOf 49 = .ok (.invokevirtual 156, 3) := by decide +kernel
theorem dX12_bubbleOf_52 : decode cX12_bubbleOf 52 = .ok (.istore 6, 2) := by decide +kernel
theorem dX12_bubbleOf_54 : decode cX12_bubbleOf 54 = .ok (.iload_n 2, 1) := by decide +kernel
theorem dX12_bubbleOf_55 : decode cX12_bubbleOf 55 = .ok (.iload 6, 2) := by decide +kernel
theorem dX12_bubbleOf_57 : decode cX12_bubbleOf 57 = .ok (.ifCond .lt 32, 3) := by decide +kernel
theorem dX12_bubbleOf_60 : decode cX12_bubbleOf 60 = .ok (.aload_n 0, 1) := by decide +kernel
theorem dX12_bubbleOf_61 : decode cX12_bubbleOf 61 = .ok (.getfield 7, 3) := by decide +kernel
theorem dX12_bubbleOf_64 : decode cX12_bubbleOf 64 = .ok (.bipush 10, 2) := by decide +kernel
theorem dX12_bubbleOf_66 : decode cX12_bubbleOf 66 = .ok (.iload 6, 2) := by decide +kernel
theorem dX12_bubbleOf_68 : decode cX12_bubbleOf 68 = .ok (.ifCond .ge 7, 3) := by decide +kernel
theorem dX12_bubbleOf_71 : decode cX12_bubbleOf 71 = .ok (.iconst 0, 1) := by decide +kernel
theorem dX12_bubbleOf_72 : decode cX12_bubbleOf 72 = .ok (.goto 5, 3) := by decide +kernel
theorem dX12_bubbleOf_75 : decode cX12_bubbleOf 75 = .ok (.iload 6, 2) := by decide +kernel
theorem dX12_bubbleOf_77 : decode cX12_bubbleOf 77 = .ok (.iadd, 1) := by decide +kernel
theorem dX12_bubbleOf_78 : decode cX12_bubbleOf 78 = .ok (.iaload, 1) := by decide +kernel
theorem dX12_bubbleOf_79 : decode cX12_bubbleOf 79 = .ok (.ifCond .le 10, 3) := by decide +kernel
theorem dX12_bubbleOf_82 : decode cX12_bubbleOf 82 = .ok (.iconst 1, 1) := by decide +kernel
theorem dX12_bubbleOf_83 : decode cX12_bubbleOf 83 = .ok (.iload 6, 2) := by decide +kernel
theorem dX12_bubbleOf_85 : decode cX12_bubbleOf 85 = .ok (.ishl, 1) := by decide +kernel
theorem dX12_bubbleOf_86 : decode cX12_bubbleOf 86 = .ok (.goto 4, 3) := by decide +kernel
theorem dX12_bubbleOf_89 : decode cX12_bubbleOf 89 = .ok (.iconst 0, 1) := by decide +kernel
theorem dX12_bubbleOf_90 : decode cX12_bubbleOf 90 = .ok (.ior, 1) := by decide +kernel
theorem dX12_bubbleOf_91 : decode cX12_bubbleOf 91 = .ok (.istore_n 2, 1) := by decide +kernel
theorem dX12_bubbleOf_92 : decode cX12_bubbleOf 92 = .ok (.iinc 5 1, 3) := by decide +kernel
theorem dX12_bubbleOf_95 : decode cX12_bubbleOf 95 = .ok (.goto (-67), 3) := by decide +kernel
theorem dX12_bubbleOf_98 : decode cX12_bubbleOf 98 = .ok (.iinc 4 1, 3) := by decide +kernel
theorem dX12_bubbleOf_101 : decode cX12_bubbleOf 101 = .ok (.goto (-85), 3) := by decide +kernel
theorem dX12_bubbleOf_104 : decode cX12_bubbleOf 104 = .ok (.goto (-98), 3) := by decide +kernel
theorem dX12_bubbleOf_107 : decode cX12_bubbleOf 107 = .ok (.iload_n 2, 1) := by decide +kernel
theorem dX12_bubbleOf_108 : decode cX12_bubbleOf 108 = .ok (.ireturn, 1) := by decide +kernel
theorem dX12_sizeOf0_0 : decode cX12_sizeOf0 0 = .ok (.iconst 0, 1) := by decide +kernel
theorem dX12_sizeOf0_1 : decode cX12_sizeOf0 1 = .ok (.istore_n 2, 1) := by decide +kernel
theorem dX12_sizeOf0_2 : decode cX12_sizeOf0 2 = .ok (.iconst 0, 1) := by decide +kernel
theorem dX12_sizeOf0_3 : decode cX12_sizeOf0 3 = .ok (.istore_n 3, 1) := by decide +kernel
theorem dX12_sizeOf0_4 : decode cX12_sizeOf0 4 = .ok (.iload_n 3, 1) := by decide +kernel
theorem dX12_sizeOf0_5 : decode cX12_sizeOf0 5 = .ok (.aload_n 0, 1) := by decide +kernel
theorem dX12_sizeOf0_6 : decode cX12_sizeOf0 6 = .ok (.invokevirtual 51, 3) := by decide +kernel
theorem dX12_sizeOf0_9 : decode cX12_sizeOf0 9 = .ok (.if_icmp .ge 34, 3) := by decide +kernel
theorem dX12_sizeOf0_12 : decode cX12_sizeOf0 12 = .ok (.iload_n 2, 1) := by decide +kernel
theorem dX12_sizeOf0_13 : decode cX12_sizeOf0 13 = .ok (.iload_n 1, 1) := by decide +kernel
theorem dX12_sizeOf0_14 : decode cX12_sizeOf0 14 = .ok (.iload_n 3, 1) := by decide +kernel
theorem dX12_sizeOf0_15 : decode cX12_sizeOf0 15 = .ok (.ishr, 1) := by decide +kernel
theorem dX12_sizeOf0_16 : decode cX12_sizeOf0 16 = .ok (.iconst 1, 1) := by decide +kernel
theorem dX12_sizeOf0_17 : decode cX12_sizeOf0 17 = .ok (.iand, 1) := by decide +kernel
theorem dX12_sizeOf0_18 : decode cX12_sizeOf0 18 = .ok (.iconst 1, 1) := by decide +kernel
theorem dX12_sizeOf0_19 : decode cX12_sizeOf0 19 = .ok (.if_icmp .ne 15, 3) := by decide +kernel
theorem dX12_sizeOf0_22 : decode cX12_sizeOf0 22 = .ok (.aload_n 0, 1) := by decide +kernel
theorem dX12_sizeOf0_23 : decode cX12_sizeOf0 23 = .ok (.getfield 7, 3) := by decide +kernel
theorem dX12_sizeOf0_26 : decode cX12_sizeOf0 26 = .ok (.bipush 10, 2) := by decide +kernel
theorem dX12_sizeOf0_28 : decode cX12_sizeOf0 28 = .ok (.iload_n 3, 1) := by decide +kernel
theorem dX12_sizeOf0_29 : decode cX12_sizeOf0 29 = .ok (.iadd, 1) := by decide +kernel
theorem dX12_sizeOf0_30 : decode cX12_sizeOf0 30 = .ok (.iaload, 1) := by decide +kernel
theorem dX12_sizeOf0_31 : decode cX12_sizeOf0 31 = .ok (.goto 4, 3) := by decide +kernel
theorem dX12_sizeOf0_34 : decode cX12_sizeOf0 34 = .ok (.iconst 0, 1) := by decide +kernel
theorem dX12_sizeOf0_35 : decode cX12_sizeOf0 35 = .ok (.iadd, 1) := by decide +kernel
theorem dX12_sizeOf0_36 : decode cX12_sizeOf0 36 = .ok (.istore_n 2, 1) := by decide +kernel
theorem dX12_sizeOf0_37 : decode cX12_sizeOf0 37 = .ok (.iinc 3 1, 3) := by decide +kernel
theorem dX12_sizeOf0_40 : decode cX12_sizeOf0 40 = .ok (.goto (-36), 3) := by decide +kernel
theorem dX12_sizeOf0_43 : decode cX12_sizeOf0 43 = .ok (.iload_n 2, 1) := by decide +kernel
theorem dX12_sizeOf0_44 : decode cX12_sizeOf0 44 = .ok (.ireturn, 1) := by decide +kernel
theorem dX12_ofCell_0 : decode cX12_ofCell 0 = .ok (.aload_n 0, 1) := by decide +kernel
theorem dX12_ofCell_1 : decode cX12_ofCell 1 = .ok (.iload_n 1, 1) := by decide +kernel
theorem dX12_ofCell_2 : decode cX12_ofCell 2 = .ok (.invokevirtual 137, 3) := by decide +kernel
theorem dX12_ofCell_5 : decode cX12_ofCell 5 = .ok (.ifCond .eq 15, 3) := by decide +kernel
theorem dX12_ofCell_8 : decode cX12_ofCell 8 = .ok (.iload_n 2, 1) := by decide +kernel
theorem dX12_ofCell_9 : decode cX12_ofCell 9 = .ok (.i2l, 1) := by decide +kernel
theorem dX12_ofCell_10 : decode cX12_ofCell 10 = .ok (.lconst 0, 1) := by decide +kernel
theorem dX12_ofCell_11 : decode cX12_ofCell 11 = .ok (.ldc2_w 59, 3) := by decide +kernel
theorem dX12_ofCell_14 : decode cX12_ofCell 14 = .ok (.invokestatic 55, 3) := by decide +kernel
theorem dX12_ofCell_17 : decode cX12_ofCell 17 = .ok (.ifCond .ne 9, 3) := by decide +kernel
theorem dX12_ofCell_20 : decode cX12_ofCell 20 = .ok (.aload_n 0, 1) := by decide +kernel
theorem dX12_ofCell_21 : decode cX12_ofCell 21 = .ok (.iconst 1, 1) := by decide +kernel
theorem dX12_ofCell_22 : decode cX12_ofCell 22 = .ok (.invokevirtual 119, 3) := by decide +kernel
theorem dX12_ofCell_25 : decode cX12_ofCell 25 = .ok (.ireturn, 1) := by decide +kernel
theorem dX12_ofCell_26 : decode cX12_ofCell 26 = .ok (.iload_n 2, 1) := by decide +kernel
theorem dX12_ofCell_27 : decode cX12_ofCell 27 = .ok (.tableswitch 51 0 2 #[25, 35, 45], 25) := by decide +kernel
theorem dX12_ofCell_52 : decode cX12_ofCell 52 = .ok (.aload_n 0, 1) := by decide +kernel
theorem dX12_ofCell_53 : decode cX12_ofCell 53 = .ok (.getfield 7, 3) := by decide +kernel
theorem dX12_ofCell_56 : decode cX12_ofCell 56 = .ok (.bipush 10, 2) := by decide +kernel
theorem dX12_ofCell_58 : decode cX12_ofCell 58 = .ok (.iload_n 1, 1) := by decide +kernel
theorem dX12_ofCell_59 : decode cX12_ofCell 59 = .ok (.iadd, 1) := by decide +kernel
theorem dX12_ofCell_60 : decode cX12_ofCell 60 = .ok (.iaload, 1) := by decide +kernel
theorem dX12_ofCell_61 : decode cX12_ofCell 61 = .ok (.ireturn, 1) := by decide +kernel
theorem dX12_ofCell_62 : decode cX12_ofCell 62 = .ok (.aload_n 0, 1) := by decide +kernel
theorem dX12_ofCell_63 : decode cX12_ofCell 63 = .ok (.getfield 7, 3) := by decide +kernel
theorem dX12_ofCell_66 : decode cX12_ofCell 66 = .ok (.bipush 35, 2) := by decide +kernel
theorem dX12_ofCell_68 : decode cX12_ofCell 68 = .ok (.iload_n 1, 1) := by decide +kernel
theorem dX12_ofCell_69 : decode cX12_ofCell 69 = .ok (.iadd, 1) := by decide +kernel
theorem dX12_ofCell_70 : decode cX12_ofCell 70 = .ok (.iaload, 1) := by decide +kernel
theorem dX12_ofCell_71 : decode cX12_ofCell 71 = .ok (.ireturn, 1) := by decide +kernel
theorem dX12_ofCell_72 : decode cX12_ofCell 72 = .ok (.aload_n 0, 1) := by decide +kernel
theorem dX12_ofCell_73 : decode cX12_ofCell 73 = .ok (.iload_n 1, 1) := by decide +kernel
theorem dX12_ofCell_74 : decode cX12_ofCell 74 = .ok (.invokevirtual 150, 3) := by decide +kernel
theorem dX12_ofCell_77 : decode cX12_ofCell 77 = .ok (.ireturn, 1) := by decide +kernel
theorem dX12_ofCell_78 : decode cX12_ofCell 78 = .ok (.aload_n 0, 1) := by decide +kernel
theorem dX12_ofCell_79 : decode cX12_ofCell 79 = .ok (.getfield 7, 3) := by decide +kernel
theorem dX12_ofCell_82 : decode cX12_ofCell 82 = .ok (.bipush 10, 2) := by decide +kernel
theorem dX12_ofCell_84 : decode cX12_ofCell 84 = .ok (.iload_n 1, 1) := by decide +kernel
theorem dX12_ofCell_85 : decode cX12_ofCell 85 = .ok (.iadd, 1) := by decide +kernel
theorem dX12_ofCell_86 : decode cX12_ofCell 86 = .ok (.iaload, 1) := by decide +kernel
theorem dX12_ofCell_87 : decode cX12_ofCell 87 = .ok (.ifCond .ne 7, 3) := by decide +kernel
theorem dX12_ofCell_90 : decode cX12_ofCell 90 = .ok (.iconst 0, 1) := by decide +kernel
theorem dX12_ofCell_91 : decode cX12_ofCell 91 = .ok (.goto 12, 3) := by decide +kernel
theorem dX12_ofCell_94 : decode cX12_ofCell 94 = .ok (.aload_n 0, 1) := by decide +kernel
theorem dX12_ofCell_95 : decode cX12_ofCell 95 = .ok (.aload_n 0, 1) := by decide +kernel
theorem dX12_ofCell_96 : decode cX12_ofCell 96 = .ok (.iload_n 1, 1) := by decide +kernel
theorem dX12_ofCell_97 : decode cX12_ofCell 97 = .ok (.invokevirtual 160, 3) := by decide +kernel
theorem dX12_ofCell_100 : decode cX12_ofCell 100 = .ok (.invokevirtual 163, 3) := by decide +kernel
theorem dX12_ofCell_103 : decode cX12_ofCell 103 = .ok (.ireturn, 1) := by decide +kernel
theorem dX12_isOpen_0 : decode cX12_isOpen 0 = .ok (.aload_n 0, 1) := by decide +kernel
theorem dX12_isOpen_1 : decode cX12_isOpen 1 = .ok (.getfield 7, 3) := by decide +kernel
theorem dX12_isOpen_4 : decode cX12_isOpen 4 = .ok (.bipush 9, 2) := by decide +kernel
theorem dX12_isOpen_6 : decode cX12_isOpen 6 = .ok (.iaload, 1) := by decide +kernel
theorem dX12_isOpen_7 : decode cX12_isOpen 7 = .ok (.iload_n 1, 1) := by decide +kernel
theorem dX12_isOpen_8 : decode cX12_isOpen 8 = .ok (.ishr, 1) := by decide +kernel
theorem dX12_isOpen_9 : decode cX12_isOpen 9 = .ok (.iconst 1, 1) := by decide +kernel
theorem dX12_isOpen_10 : decode cX12_isOpen 10 = .ok (.iand, 1) := by decide +kernel
theorem dX12_isOpen_11 : decode cX12_isOpen 11 = .ok (.iconst 1, 1) := by decide +kernel
theorem dX12_isOpen_12 : decode cX12_isOpen 12 = .ok (.if_icmp .ne 7, 3) := by decide +kernel
theorem dX12_isOpen_15 : decode cX12_isOpen 15 = .ok (.iconst 1, 1) := by decide +kernel
theorem dX12_isOpen_16 : decode cX12_isOpen 16 = .ok (.goto 4, 3) := by decide +kernel
theorem dX12_isOpen_19 : decode cX12_isOpen 19 = .ok (.iconst 0, 1) := by decide +kernel
theorem dX12_isOpen_20 : decode cX12_isOpen 20 = .ok (.ireturn, 1) := by decide +kernel
theorem dX12_edge_0 : decode cX12_edge 0 = .ok (.iload_n 1, 1) := by decide +kernel
theorem dX12_edge_1 : decode cX12_edge 1 = .ok (.invokestatic 166, 3) := by decide +kernel
theorem dX12_edge_4 : decode cX12_edge 4 = .ok (.ifCond .eq 13, 3) := by decide +kernel
theorem dX12_edge_7 : decode cX12_edge 7 = .ok (.iload_n 2, 1) := by decide +kernel
theorem dX12_edge_8 : decode cX12_edge 8 = .ok (.i2l, 1) := by decide +kernel
theorem dX12_edge_9 : decode cX12_edge 9 = .ok (.lconst 0, 1) := by decide +kernel
theorem dX12_edge_10 : decode cX12_edge 10 = .ok (.lconst 1, 1) := by decide +kernel
theorem dX12_edge_11 : decode cX12_edge 11 = .ok (.invokestatic 55, 3) := by decide +kernel
theorem dX12_edge_14 : decode cX12_edge 14 = .ok (.ifCond .ne 9, 3) := by decide +kernel
theorem dX12_edge_17 : decode cX12_edge 17 = .ok (.aload_n 0, 1) := by decide +kernel
theorem dX12_edge_18 : decode cX12_edge 18 = .ok (.iconst 1, 1) := by decide +kernel
theorem dX12_edge_19 : decode cX12_edge 19 = .ok (.invokevirtual 119, 3) := by decide +kernel
theorem dX12_edge_22 : decode cX12_edge 22 = .ok (.ireturn, 1) := by decide +kernel
theorem dX12_edge_23 : decode cX12_edge 23 = .ok (.aload_n 0, 1) := by decide +kernel
theorem dX12_edge_24 : decode cX12_edge 24 = .ok (.iload_n 1, 1) := by decide +kernel
theorem dX12_edge_25 : decode cX12_edge 25 = .ok (.invokevirtual 169, 3) := by decide +kernel
theorem dX12_edge_28 : decode cX12_edge 28 = .ok (.ifCond .eq 7, 3) := by decide +kernel
theorem dX12_edge_31 : decode cX12_edge 31 = .ok (.iconst 1, 1) := by decide +kernel
theorem dX12_edge_32 : decode cX12_edge 32 = .ok (.goto 4, 3) := by decide +kernel
theorem dX12_edge_35 : decode cX12_edge 35 = .ok (.iconst 0, 1) := by decide +kernel
theorem dX12_edge_36 : decode cX12_edge 36 = .ok (.istore_n 3, 1) := by decide +kernel
theorem dX12_edge_37 : decode cX12_edge 37 = .ok (.aload_n 0, 1) := by decide +kernel
theorem dX12_edge_38 : decode cX12_edge 38 = .ok (.getfield 7, 3) := by decide +kernel
theorem dX12_edge_41 : decode cX12_edge 41 = .ok (.bipush 9, 2) := by decide +kernel
theorem dX12_edge_43 : decode cX12_edge 43 = .ok (.iload_n 2, 1) := by decide +kernel
theorem dX12_edge_44 : decode cX12_edge 44 = .ok (.iconst 1, 1) := by decide +kernel
theorem dX12_edge_45 : decode cX12_edge 45 = .ok (.if_icmp .ne 17, 3) := by decide +kernel
theorem dX12_edge_48 : decode cX12_edge 48 = .ok (.aload_n 0, 1) := by decide +kernel
theorem dX12_edge_49 : decode cX12_edge 49 = .ok (.getfield 7, 3) := by decide +kernel
theorem dX12_edge_52 : decode cX12_edge 52 = .ok (.bipush 9, 2) := by decide +kernel
theorem dX12_edge_54 : decode cX12_edge 54 = .ok (.iaload, 1) := by decide +kernel
theorem dX12_edge_55 : decode cX12_edge 55 = .ok (.iconst 1, 1) := by decide +kernel
theorem dX12_edge_56 : decode cX12_edge 56 = .ok (.iload_n 1, 1) := by decide +kernel
theorem dX12_edge_57 : decode cX12_edge 57 = .ok (.ishl, 1) := by decide +kernel
theorem dX12_edge_58 : decode cX12_edge 58 = .ok (.ior, 1) := by decide +kernel
theorem dX12_edge_59 : decode cX12_edge 59 = .ok (.goto 16, 3) := by decide +kernel
theorem dX12_edge_62 : decode cX12_edge 62 = .ok (.aload_n 0, 1) := by decide +kernel
theorem dX12_edge_63 : decode cX12_edge 63 = .ok (.getfield 7, 3) := by decide +kernel
theorem dX12_edge_66 : decode cX12_edge 66 = .ok (.bipush 9, 2) := by decide +kernel
theorem dX12_edge_68 : decode cX12_edge 68 = .ok (.iaload, 1) := by decide +kernel
theorem dX12_edge_69 : decode cX12_edge 69 = .ok (.iconst 1, 1) := by decide +kernel
theorem dX12_edge_70 : decode cX12_edge 70 = .ok (.iload_n 1, 1) := by decide +kernel
theorem dX12_edge_71 : decode cX12_edge 71 = .ok (.ishl, 1) := by decide +kernel
theorem dX12_edge_72 : decode cX12_edge 72 = .ok (.iconst (-1), 1) := by decide +kernel
theorem dX12_edge_73 : decode cX12_edge 73 = .ok (.ixor, 1) := by decide +kernel
theorem dX12_edge_74 : decode cX12_edge 74 = .ok (.iand, 1) := by decide +kernel
theorem dX12_edge_75 : decode cX12_edge 75 = .ok (.iastore, 1) := by decide +kernel
theorem dX12_edge_76 : decode cX12_edge 76 = .ok (.iload_n 3, 1) := by decide +kernel
theorem dX12_edge_77 : decode cX12_edge 77 = .ok (.ireturn, 1) := by decide +kernel
theorem dX12_movesOf_0 : decode cX12_movesOf 0 = .ok (.aload_n 0, 1) := by decide +kernel
theorem dX12_movesOf_1 : decode cX12_movesOf 1 = .ok (.iload_n 1, 1) := by decide +kernel
theorem dX12_movesOf_2 : decode cX12_movesOf 2 = .ok (.invokevirtual 147, 3) := by decide +kernel
theorem dX12_movesOf_5 : decode cX12_movesOf 5 = .ok (.istore 4, 2) := by decide +kernel
theorem dX12_movesOf_7 : decode cX12_movesOf 7 = .ok (.aload_n 0, 1) := by decide +kernel
theorem dX12_movesOf_8 : decode cX12_movesOf 8 = .ok (.iload_n 1, 1) := by decide +kernel
theorem dX12_movesOf_9 : decode cX12_movesOf 9 = .ok (.iload_n 2, 1) := by decide +kernel
theorem dX12_movesOf_10 : decode cX12_movesOf 10 = .ok (.iload_n 3, 1) := by decide +kernel
theorem dX12_movesOf_11 : decode cX12_movesOf 11 = .ok (.invokevirtual 172, 3) := by decide +kernel
theorem dX12_movesOf_14 : decode cX12_movesOf 14 = .ok (.istore 5, 2) := by decide +kernel
theorem dX12_movesOf_16 : decode cX12_movesOf 16 = .ok (.aload_n 0, 1) := by decide +kernel
theorem dX12_movesOf_17 : decode cX12_movesOf 17 = .ok (.iload_n 1, 1) := by decide +kernel
theorem dX12_movesOf_18 : decode cX12_movesOf 18 = .ok (.invokevirtual 175, 3) := by decide +kernel
theorem dX12_movesOf_21 : decode cX12_movesOf 21 = .ok (.tableswitch 87 1 6 #[39, 45, 51, 57, 45, 68], 39) := by decide +kernel
theorem dX12_movesOf_60 : decode cX12_movesOf 60 = .ok (.iinc 5 1, 3) := by decide +kernel
theorem dX12_movesOf_63 : decode cX12_movesOf 63 = .ok (.goto 45, 3) := by decide +kernel
theorem dX12_movesOf_66 : decode cX12_movesOf 66 = .ok (.iconst 0, 1) := by decide +kernel
theorem dX12_movesOf_67 : decode cX12_movesOf 67 = .ok (.istore 5, 2) := by decide +kernel
theorem dX12_movesOf_69 : decode cX12_movesOf 69 = .ok (.goto 39, 3) := by decide +kernel
theorem dX12_movesOf_72 : decode cX12_movesOf 72 = .ok (.iload_n 2, 1) := by decide +kernel
theorem dX12_movesOf_73 : decode cX12_movesOf 73 = .ok (.istore 5, 2) := by decide +kernel
theorem dX12_movesOf_75 : decode cX12_movesOf 75 = .ok (.goto 33, 3) := by decide +kernel
theorem dX12_movesOf_78 : decode cX12_movesOf 78 = .ok (.iload 5, 2) := by decide +kernel
theorem dX12_movesOf_80 : decode cX12_movesOf 80 = .ok (.iconst 1, 1) := by decide +kernel
theorem dX12_movesOf_81 : decode cX12_movesOf 81 = .ok (.iadd, 1) := by decide +kernel
theorem dX12_movesOf_82 : decode cX12_movesOf 82 = .ok (.iconst 2, 1) := by decide +kernel
theorem dX12_movesOf_83 : decode cX12_movesOf 83 = .ok (.idiv, 1) := by decide +kernel
theorem dX12_movesOf_84 : decode cX12_movesOf 84 = .ok (.istore 5, 2) := by decide +kernel
theorem dX12_movesOf_86 : decode cX12_movesOf 86 = .ok (.goto 22, 3) := by decide +kernel
theorem dX12_movesOf_89 : decode cX12_movesOf 89 = .ok (.iload_n 2, 1) := by decide +kernel
theorem dX12_movesOf_90 : decode cX12_movesOf 90 = .ok (.iload 4, 2) := by decide +kernel
theorem dX12_movesOf_92 : decode cX12_movesOf 92 = .ok (.if_icmp .ge 7, 3) := by decide +kernel
theorem dX12_movesOf_95 : decode cX12_movesOf 95 = .ok (.iconst 0, 1) := by decide +kernel
theorem dX12_movesOf_96 : decode cX12_movesOf 96 = .ok (.goto 7, 3) := by decide +kernel
theorem dX12_movesOf_99 : decode cX12_movesOf 99 = .ok (.iload_n 2, 1) := by decide +kernel
theorem dX12_movesOf_100 : decode cX12_movesOf 100 = .ok (.iload 4, 2) := by decide +kernel
theorem dX12_movesOf_102 : decode cX12_movesOf 102 = .ok (.isub, 1) := by decide +kernel
theorem dX12_movesOf_103 : decode cX12_movesOf 103 = .ok (.istore 5, 2) := by decide +kernel
theorem dX12_movesOf_105 : decode cX12_movesOf 105 = .ok (.goto 3, 3) := by decide +kernel
theorem dX12_movesOf_108 : decode cX12_movesOf 108 = .ok (.iload 5, 2) := by decide +kernel
theorem dX12_movesOf_110 : decode cX12_movesOf 110 = .ok (.iload_n 2, 1) := by decide +kernel
theorem dX12_movesOf_111 : decode cX12_movesOf 111 = .ok (.if_icmp .ge 8, 3) := by decide +kernel
theorem dX12_movesOf_114 : decode cX12_movesOf 114 = .ok (.iload 5, 2) := by decide +kernel
theorem dX12_movesOf_116 : decode cX12_movesOf 116 = .ok (.goto 4, 3) := by decide +kernel
theorem dX12_movesOf_119 : decode cX12_movesOf 119 = .ok (.iload_n 2, 1) := by decide +kernel
theorem dX12_movesOf_120 : decode cX12_movesOf 120 = .ok (.ireturn, 1) := by decide +kernel
theorem dX12_reachOf_0 : decode cX12_reachOf 0 = .ok (.aload_n 0, 1) := by decide +kernel
theorem dX12_reachOf_1 : decode cX12_reachOf 1 = .ok (.iload_n 1, 1) := by decide +kernel
theorem dX12_reachOf_2 : decode cX12_reachOf 2 = .ok (.invokevirtual 175, 3) := by decide +kernel
theorem dX12_reachOf_5 : decode cX12_reachOf 5 = .ok (.iconst 3, 1) := by decide +kernel
theorem dX12_reachOf_6 : decode cX12_reachOf 6 = .ok (.if_icmp .ne 7, 3) := by decide +kernel
theorem dX12_reachOf_9 : decode cX12_reachOf 9 = .ok (.iconst 2, 1) := by decide +kernel
theorem dX12_reachOf_10 : decode cX12_reachOf 10 = .ok (.goto 26, 3) := by decide +kernel
theorem dX12_reachOf_13 : decode cX12_reachOf 13 = .ok (.aload_n 0, 1) := by decide +kernel
theorem dX12_reachOf_14 : decode cX12_reachOf 14 = .ok (.iload_n 1, 1) := by decide +kernel
theorem dX12_reachOf_15 : decode cX12_reachOf 15 = .ok (.invokevirtual 175, 3) := by decide +kernel
theorem dX12_reachOf_18 : decode cX12_reachOf 18 = .ok (.bipush 6, 2) := by decide +kernel
theorem dX12_reachOf_20 : decode cX12_reachOf 20 = .ok (.if_icmp .ne 15, 3) := by decide +kernel
theorem dX12_reachOf_23 : decode cX12_reachOf 23 = .ok (.iconst 2, 1) := by decide +kernel
theorem dX12_reachOf_24 : decode cX12_reachOf 24 = .ok (.aload_n 0, 1) := by decide +kernel
theorem dX12_reachOf_25 : decode cX12_reachOf 25 = .ok (.iload_n 1, 1) := by decide +kernel
theorem dX12_reachOf_26 : decode cX12_reachOf 26 = .ok (.invokevirtual 147, 3) := by decide +kernel
theorem dX12_reachOf_29 : decode cX12_reachOf 29 = .ok (.iconst 3, 1) := by decide +kernel
theorem dX12_reachOf_30 : decode cX12_reachOf 30 = .ok (.irem, 1) := by decide +kernel
theorem dX12_reachOf_31 : decode cX12_reachOf 31 = .ok (.iadd, 1) := by decide +kernel
theorem dX12_reachOf_32 : decode cX12_reachOf 32 = .ok (.goto 4, 3) := by decide +kernel
theorem dX12_reachOf_35 : decode cX12_reachOf 35 = .ok (.iconst 1, 1) := by decide +kernel
theorem dX12_reachOf_36 : decode cX12_reachOf 36 = .ok (.ireturn, 1) := by decide +kernel
theorem dX12_letsOf_0 : decode cX12_letsOf 0 = .ok (.aload_n 0, 1) := by decide +kernel
theorem dX12_letsOf_1 : decode cX12_letsOf 1 = .ok (.iload_n 1, 1) := by decide +kernel
theorem dX12_letsOf_2 : decode cX12_letsOf 2 = .ok (.invokevirtual 175, 3) := by decide +kernel
theorem dX12_letsOf_5 : decode cX12_letsOf 5 = .ok (.iconst 2, 1) := by decide +kernel
theorem dX12_letsOf_6 : decode cX12_letsOf 6 = .ok (.if_icmp .ne 13, 3) := by decide +kernel
theorem dX12_letsOf_9 : decode cX12_letsOf 9 = .ok (.aload_n 0, 1) := by decide +kernel
theorem dX12_letsOf_10 : decode cX12_letsOf 10 = .ok (.iload_n 1, 1) := by decide +kernel
theorem dX12_letsOf_11 : decode cX12_letsOf 11 = .ok (.invokevirtual 147, 3) := by decide +kernel
theorem dX12_letsOf_14 : decode cX12_letsOf 14 = .ok (.iconst 1, 1) := by decide +kernel
theorem dX12_letsOf_15 : decode cX12_letsOf 15 = .ok (.iadd, 1) := by decide +kernel
theorem dX12_letsOf_16 : decode cX12_letsOf 16 = .ok (.goto 17, 3) := by decide +kernel
theorem dX12_letsOf_19 : decode cX12_letsOf 19 = .ok (.aload_n 0, 1) := by decide +kernel
theorem dX12_letsOf_20 : decode cX12_letsOf 20 = .ok (.iload_n 1, 1) := by decide +kernel
theorem dX12_letsOf_21 : decode cX12_letsOf 21 = .ok (.invokevirtual 175, 3) := by decide +kernel
theorem dX12_letsOf_24 : decode cX12_letsOf 24 = .ok (.iconst 5, 1) := by decide +kernel
theorem dX12_letsOf_25 : decode cX12_letsOf 25 = .ok (.if_icmp .ne 7, 3) := by decide +kernel
theorem dX12_letsOf_28 : decode cX12_letsOf 28 = .ok (.iload_n 2, 1) := by decide +kernel
theorem dX12_letsOf_29 : decode cX12_letsOf 29 = .ok (.goto 4, 3) := by decide +kernel
theorem dX12_letsOf_32 : decode cX12_letsOf 32 = .ok (.iconst 0, 1) := by decide +kernel
theorem dX12_letsOf_33 : decode cX12_letsOf 33 = .ok (.istore_n 3, 1) := by decide +kernel
theorem dX12_letsOf_34 : decode cX12_letsOf 34 = .ok (.iload_n 3, 1) := by decide +kernel
theorem dX12_letsOf_35 : decode cX12_letsOf 35 = .ok (.iload_n 2, 1) := by decide +kernel
theorem dX12_letsOf_36 : decode cX12_letsOf 36 = .ok (.if_icmp .ge 7, 3) := by decide +kernel
theorem dX12_letsOf_39 : decode cX12_letsOf 39 = .ok (.iload_n 3, 1) := by decide +kernel
theorem dX12_letsOf_40 : decode cX12_letsOf 40 = .ok (.goto 4, 3) := by decide +kernel
theorem dX12_letsOf_43 : decode cX12_letsOf 43 = .ok (.iload_n 2, 1) := by decide +kernel
theorem dX12_letsOf_44 : decode cX12_letsOf 44 = .ok (.ireturn, 1) := by decide +kernel
theorem dX12_tearsOf_0 : decode cX12_tearsOf 0 = .ok (.iload_n 2, 1) := by decide +kernel
theorem dX12_tearsOf_1 : decode cX12_tearsOf 1 = .ok (.iconst 3, 1) := by decide +kernel
theorem dX12_tearsOf_2 : decode cX12_tearsOf 2 = .ok (.if_icmp .ge 7, 3) := by decide +kernel
theorem dX12_tearsOf_5 : decode cX12_tearsOf 5 = .ok (.iconst 1, 1) := by decide +kernel
theorem dX12_tearsOf_6 : decode cX12_tearsOf 6 = .ok (.goto 4, 3) := by decide +kernel
theorem dX12_tearsOf_9 : decode cX12_tearsOf 9 = .ok (.iconst 0, 1) := by decide +kernel
theorem dX12_tearsOf_10 : decode cX12_tearsOf 10 = .ok (.istore_n 3, 1) := by decide +kernel
theorem dX12_tearsOf_11 : decode cX12_tearsOf 11 = .ok (.aload_n 0, 1) := by decide +kernel
theorem dX12_tearsOf_12 : decode cX12_tearsOf 12 = .ok (.iload_n 1, 1) := by decide +kernel
theorem dX12_tearsOf_13 : decode cX12_tearsOf 13 = .ok (.invokevirtual 175, 3) := by decide +kernel
theorem dX12_tearsOf_16 : decode cX12_tearsOf 16 = .ok (.tableswitch 54 2 6 #[36, 54, 54, 38, 42], 36) := by decide +kernel
theorem dX12_tearsOf_52 : decode cX12_tearsOf 52 = .ok (.iload_n 3, 1) := by decide +kernel
theorem dX12_tearsOf_53 : decode cX12_tearsOf 53 = .ok (.ireturn, 1) := by decide +kernel
theorem dX12_tearsOf_54 : decode cX12_tearsOf 54 = .ok (.iconst 1, 1) := by decide +kernel
theorem dX12_tearsOf_55 : decode cX12_tearsOf 55 = .ok (.iload_n 3, 1) := by decide +kernel
theorem dX12_tearsOf_56 : decode cX12_tearsOf 56 = .ok (.iadd, 1) := by decide +kernel
theorem dX12_tearsOf_57 : decode cX12_tearsOf 57 = .ok (.ireturn, 1) := by decide +kernel
theorem dX12_tearsOf_58 : decode cX12_tearsOf 58 = .ok (.iload_n 2, 1) := by decide +kernel
theorem dX12_tearsOf_59 : decode cX12_tearsOf 59 = .ok (.bipush 7, 2) := by decide +kernel
theorem dX12_tearsOf_61 : decode cX12_tearsOf 61 = .ok (.if_icmp .le 7, 3) := by decide +kernel
theorem dX12_tearsOf_64 : decode cX12_tearsOf 64 = .ok (.iconst 1, 1) := by decide +kernel
theorem dX12_tearsOf_65 : decode cX12_tearsOf 65 = .ok (.goto 4, 3) := by decide +kernel
theorem dX12_tearsOf_68 : decode cX12_tearsOf 68 = .ok (.iconst 0, 1) := by decide +kernel
theorem dX12_tearsOf_69 : decode cX12_tearsOf 69 = .ok (.ireturn, 1) := by decide +kernel
theorem dX12_tearsOf_70 : decode cX12_tearsOf 70 = .ok (.iconst 0, 1) := by decide +kernel
theorem dX12_tearsOf_71 : decode cX12_tearsOf 71 = .ok (.ireturn, 1) := by decide +kernel
theorem dX12_tool_0 : decode cX12_tool 0 = .ok (.iload_n 1, 1) := by decide +kernel
theorem dX12_tool_1 : decode cX12_tool 1 = .ok (.i2l, 1) := by decide +kernel
theorem dX12_tool_2 : decode cX12_tool 2 = .ok (.lconst 0, 1) := by decide +kernel
theorem dX12_tool_3 : decode cX12_tool 3 = .ok (.ldc2_w 178, 3) := by decide +kernel
theorem dX12_tool_6 : decode cX12_tool 6 = .ok (.invokestatic 55, 3) := by decide +kernel
theorem dX12_tool_9 : decode cX12_tool 9 = .ok (.ifCond .ne 9, 3) := by decide +kernel
theorem dX12_tool_12 : decode cX12_tool 12 = .ok (.aload_n 0, 1) := by decide +kernel
theorem dX12_tool_13 : decode cX12_tool 13 = .ok (.iconst 1, 1) := by decide +kernel
theorem dX12_tool_14 : decode cX12_tool 14 = .ok (.invokevirtual 119, 3) := by decide +kernel
theorem dX12_tool_17 : decode cX12_tool 17 = .ok (.ireturn, 1) := by decide +kernel
theorem dX12_tool_18 : decode cX12_tool 18 = .ok (.aload_n 0, 1) := by decide +kernel
theorem dX12_tool_19 : decode cX12_tool 19 = .ok (.getfield 7, 3) := by decide +kernel
theorem dX12_tool_22 : decode cX12_tool 22 = .ok (.iconst 2, 1) := by decide +kernel
theorem dX12_tool_23 : decode cX12_tool 23 = .ok (.iaload, 1) := by decide +kernel
theorem dX12_tool_24 : decode cX12_tool 24 = .ok (.bipush 6, 2) := by decide +kernel
theorem dX12_tool_26 : decode cX12_tool 26 = .ok (.if_icmp .ne 9, 3) := by decide +kernel
theorem dX12_tool_29 : decode cX12_tool 29 = .ok (.aload_n 0, 1) := by decide +kernel
theorem dX12_tool_30 : decode cX12_tool 30 = .ok (.iconst 4, 1) := by decide +kernel
theorem dX12_tool_31 : decode cX12_tool 31 = .ok (.invokevirtual 119, 3) := by decide +kernel
theorem dX12_tool_34 : decode cX12_tool 34 = .ok (.ireturn, 1) := by decide +kernel
theorem dX12_tool_35 : decode cX12_tool 35 = .ok (.aload_n 0, 1) := by decide +kernel
theorem dX12_tool_36 : decode cX12_tool 36 = .ok (.getfield 7, 3) := by decide +kernel
theorem dX12_tool_39 : decode cX12_tool 39 = .ok (.bipush 60, 2) := by decide +kernel
theorem dX12_tool_41 : decode cX12_tool 41 = .ok (.iconst 2, 1) := by decide +kernel
theorem dX12_tool_42 : decode cX12_tool 42 = .ok (.aload_n 0, 1) := by decide +kernel
theorem dX12_tool_43 : decode cX12_tool 43 = .ok (.getfield 7, 3) := by decide +kernel
theorem dX12_tool_46 : decode cX12_tool 46 = .ok (.iconst 2, 1) := by decide +kernel
theorem dX12_tool_47 : decode cX12_tool 47 = .ok (.iaload, 1) := by decide +kernel
theorem dX12_tool_48 : decode cX12_tool 48 = .ok (.imul, 1) := by decide +kernel
theorem dX12_tool_49 : decode cX12_tool 49 = .ok (.iadd, 1) := by decide +kernel
theorem dX12_tool_50 : decode cX12_tool 50 = .ok (.iload_n 1, 1) := by decide +kernel
theorem dX12_tool_51 : decode cX12_tool 51 = .ok (.bipush 10, 2) := by decide +kernel
theorem dX12_tool_53 : decode cX12_tool 53 = .ok (.idiv, 1) := by decide +kernel
theorem dX12_tool_54 : decode cX12_tool 54 = .ok (.iastore, 1) := by decide +kernel
theorem dX12_tool_55 : decode cX12_tool 55 = .ok (.aload_n 0, 1) := by decide +kernel
theorem dX12_tool_56 : decode cX12_tool 56 = .ok (.getfield 7, 3) := by decide +kernel
theorem dX12_tool_59 : decode cX12_tool 59 = .ok (.bipush 60, 2) := by decide +kernel
theorem dX12_tool_61 : decode cX12_tool 61 = .ok (.iconst 2, 1) := by decide +kernel
theorem dX12_tool_62 : decode cX12_tool 62 = .ok (.aload_n 0, 1) := by decide +kernel
theorem dX12_tool_63 : decode cX12_tool 63 = .ok (.getfield 7, 3) := by decide +kernel
theorem dX12_tool_66 : decode cX12_tool 66 = .ok (.iconst 2, 1) := by decide +kernel
theorem dX12_tool_67 : decode cX12_tool 67 = .ok (.iaload, 1) := by decide +kernel
theorem dX12_tool_68 : decode cX12_tool 68 = .ok (.imul, 1) := by decide +kernel
theorem dX12_tool_69 : decode cX12_tool 69 = .ok (.iadd, 1) := by decide +kernel
theorem dX12_tool_70 : decode cX12_tool 70 = .ok (.iconst 1, 1) := by decide +kernel
theorem dX12_tool_71 : decode cX12_tool 71 = .ok (.iadd, 1) := by decide +kernel
theorem dX12_tool_72 : decode cX12_tool 72 = .ok (.iload_n 1, 1) := by decide +kernel
theorem dX12_tool_73 : decode cX12_tool 73 = .ok (.bipush 10, 2) := by decide +kernel
theorem dX12_tool_75 : decode cX12_tool 75 = .ok (.irem, 1) := by decide +kernel
theorem dX12_tool_76 : decode cX12_tool 76 = .ok (.iastore, 1) := by decide +kernel
theorem dX12_tool_77 : decode cX12_tool 77 = .ok (.aload_n 0, 1) := by decide +kernel
theorem dX12_tool_78 : decode cX12_tool 78 = .ok (.getfield 7, 3) := by decide +kernel
theorem dX12_tool_81 : decode cX12_tool 81 = .ok (.iconst 2, 1) := by decide +kernel
theorem dX12_tool_82 : decode cX12_tool 82 = .ok (.dup2, 1) := by decide +kernel
theorem dX12_tool_83 : decode cX12_tool 83 = .ok (.iaload, 1) := by decide +kernel
theorem dX12_tool_84 : decode cX12_tool 84 = .ok (.iconst 1, 1) := by decide +kernel
theorem dX12_tool_85 : decode cX12_tool 85 = .ok (.iadd, 1) := by decide +kernel
theorem dX12_tool_86 : decode cX12_tool 86 = .ok (.iastore, 1) := by decide +kernel
theorem dX12_tool_87 : decode cX12_tool 87 = .ok (.aload_n 0, 1) := by decide +kernel
theorem dX12_tool_88 : decode cX12_tool 88 = .ok (.getfield 7, 3) := by decide +kernel
theorem dX12_tool_91 : decode cX12_tool 91 = .ok (.iconst 2, 1) := by decide +kernel
theorem dX12_tool_92 : decode cX12_tool 92 = .ok (.iaload, 1) := by decide +kernel
theorem dX12_tool_93 : decode cX12_tool 93 = .ok (.iconst 1, 1) := by decide +kernel
theorem dX12_tool_94 : decode cX12_tool 94 = .ok (.isub, 1) := by decide +kernel
theorem dX12_tool_95 : decode cX12_tool 95 = .ok (.ireturn, 1) := by decide +kernel
theorem dX12_ofTool_0 : decode cX12_ofTool 0 = .ok (.aload_n 0, 1) := by decide +kernel
theorem dX12_ofTool_1 : decode cX12_ofTool 1 = .ok (.iload_n 1, 1) := by decide +kernel
theorem dX12_ofTool_2 : decode cX12_ofTool 2 = .ok (.invokevirtual 180, 3) := by decide +kernel
theorem dX12_ofTool_5 : decode cX12_ofTool 5 = .ok (.ifCond .eq 15, 3) := by decide +kernel
theorem dX12_ofTool_8 : decode cX12_ofTool 8 = .ok (.iload_n 2, 1) := by decide +kernel
theorem dX12_ofTool_9 : decode cX12_ofTool 9 = .ok (.i2l, 1) := by decide +kernel
theorem dX12_ofTool_10 : decode cX12_ofTool 10 = .ok (.lconst 0, 1) := by decide +kernel
theorem dX12_ofTool_11 : decode cX12_ofTool 11 = .ok (.ldc2_w 183, 3) := by decide +kernel
theorem dX12_ofTool_14 : decode cX12_ofTool 14 = .ok (.invokestatic 55, 3) := by decide +kernel
theorem dX12_ofTool_17 : decode cX12_ofTool 17 = .ok (.ifCond .ne 9, 3) := by decide +kernel
theorem dX12_ofTool_20 : decode cX12_ofTool 20 = .ok (.aload_n 0, 1) := by decide +kernel
theorem dX12_ofTool_21 : decode cX12_ofTool 21 = .ok (.iconst 1, 1) := by decide +kernel
theorem dX12_ofTool_22 : decode cX12_ofTool 22 = .ok (.invokevirtual 119, 3) := by decide +kernel
theorem dX12_ofTool_25 : decode cX12_ofTool 25 = .ok (.ireturn, 1) := by decide +kernel
theorem dX12_ofTool_26 : decode cX12_ofTool 26 = .ok (.iload_n 2, 1) := by decide +kernel
theorem dX12_ofTool_27 : decode cX12_ofTool 27 = .ok (.tableswitch 68 0 4 #[33, 39, 45, 51, 60], 33) := by decide +kernel
theorem dX12_ofTool_60 : decode cX12_ofTool 60 = .ok (.aload_n 0, 1) := by decide +kernel
theorem dX12_ofTool_61 : decode cX12_ofTool 61 = .ok (.iload_n 1, 1) := by decide +kernel
theorem dX12_ofTool_62 : decode cX12_ofTool 62 = .ok (.invokevirtual 175, 3) := by decide +kernel
theorem dX12_ofTool_65 : decode cX12_ofTool 65 = .ok (.ireturn, 1) := by decide +kernel
theorem dX12_ofTool_66 : decode cX12_ofTool 66 = .ok (.aload_n 0, 1) := by decide +kernel
theorem dX12_ofTool_67 : decode cX12_ofTool 67 = .ok (.iload_n 1, 1) := by decide +kernel
theorem dX12_ofTool_68 : decode cX12_ofTool 68 = .ok (.invokevirtual 147, 3) := by decide +kernel
theorem dX12_ofTool_71 : decode cX12_ofTool 71 = .ok (.ireturn, 1) := by decide +kernel
theorem dX12_ofTool_72 : decode cX12_ofTool 72 = .ok (.aload_n 0, 1) := by decide +kernel
theorem dX12_ofTool_73 : decode cX12_ofTool 73 = .ok (.iload_n 1, 1) := by decide +kernel
theorem dX12_ofTool_74 : decode cX12_ofTool 74 = .ok (.invokevirtual 185, 3) := by decide +kernel
theorem dX12_ofTool_77 : decode cX12_ofTool 77 = .ok (.ireturn, 1) := by decide +kernel
theorem dX12_ofTool_78 : decode cX12_ofTool 78 = .ok (.aload_n 0, 1) := by decide +kernel
theorem dX12_ofTool_79 : decode cX12_ofTool 79 = .ok (.iload_n 1, 1) := by decide +kernel
theorem dX12_ofTool_80 : decode cX12_ofTool 80 = .ok (.bipush 20, 2) := by decide +kernel
theorem dX12_ofTool_82 : decode cX12_ofTool 82 = .ok (.iconst 5, 1) := by decide +kernel
theorem dX12_ofTool_83 : decode cX12_ofTool 83 = .ok (.invokevirtual 188, 3) := by decide +kernel
theorem dX12_ofTool_86 : decode cX12_ofTool 86 = .ok (.ireturn, 1) := by decide +kernel
theorem dX12_ofTool_87 : decode cX12_ofTool 87 = .ok (.aload_n 0, 1) := by decide +kernel
theorem dX12_ofTool_88 : decode cX12_ofTool 88 = .ok (.iload_n 1, 1) := by decide +kernel
theorem dX12_ofTool_89 : decode cX12_ofTool 89 = .ok (.bipush 20, 2) := by decide +kernel
theorem dX12_ofTool_91 : decode cX12_ofTool 91 = .ok (.invokevirtual 191, 3) := by decide +kernel
theorem dX12_ofTool_94 : decode cX12_ofTool 94 = .ok (.ireturn, 1) := by decide +kernel
theorem dX12_ofTool_95 : decode cX12_ofTool 95 = .ok (.aload_n 0, 1) := by decide +kernel
theorem dX12_ofTool_96 : decode cX12_ofTool 96 = .ok (.iload_n 1, 1) := by decide +kernel
theorem dX12_ofTool_97 : decode cX12_ofTool 97 = .ok (.iload_n 2, 1) := by decide +kernel
theorem dX12_ofTool_98 : decode cX12_ofTool 98 = .ok (.iconst 5, 1) := by decide +kernel
theorem dX12_ofTool_99 : decode cX12_ofTool 99 = .ok (.if_icmp .ne 7, 3) := by decide +kernel
theorem dX12_ofTool_102 : decode cX12_ofTool 102 = .ok (.iconst 0, 1) := by decide +kernel
theorem dX12_ofTool_103 : decode cX12_ofTool 103 = .ok (.goto 5, 3) := by decide +kernel
theorem dX12_ofTool_106 : decode cX12_ofTool 106 = .ok (.bipush 9, 2) := by decide +kernel
theorem dX12_ofTool_108 : decode cX12_ofTool 108 = .ok (.invokevirtual 194, 3) := by decide +kernel
theorem dX12_ofTool_111 : decode cX12_ofTool 111 = .ok (.ireturn, 1) := by decide +kernel
theorem dX12_become_0 : decode cX12_become 0 = .ok (.aload_n 0, 1) := by decide +kernel
theorem dX12_become_1 : decode cX12_become 1 = .ok (.iload_n 1, 1) := by decide +kernel
theorem dX12_become_2 : decode cX12_become 2 = .ok (.invokevirtual 180, 3) := by decide +kernel
theorem dX12_become_5 : decode cX12_become 5 = .ok (.ifCond .eq 15, 3) := by decide +kernel
theorem dX12_become_8 : decode cX12_become 8 = .ok (.iload_n 2, 1) := by decide +kernel
theorem dX12_become_9 : decode cX12_become 9 = .ok (.i2l, 1) := by decide +kernel
theorem dX12_become_10 : decode cX12_become 10 = .ok (.lconst 0, 1) := by decide +kernel
theorem dX12_become_11 : decode cX12_become 11 = .ok (.ldc2_w 178, 3) := by decide +kernel
theorem dX12_become_14 : decode cX12_become 14 = .ok (.invokestatic 55, 3) := by decide +kernel
theorem dX12_become_17 : decode cX12_become 17 = .ok (.ifCond .ne 9, 3) := by decide +kernel
theorem dX12_become_20 : decode cX12_become 20 = .ok (.aload_n 0, 1) := by decide +kernel
theorem dX12_become_21 : decode cX12_become 21 = .ok (.iconst 1, 1) := by decide +kernel
theorem dX12_become_22 : decode cX12_become 22 = .ok (.invokevirtual 119, 3) := by decide +kernel
theorem dX12_become_25 : decode cX12_become 25 = .ok (.ireturn, 1) := by decide +kernel
theorem dX12_become_26 : decode cX12_become 26 = .ok (.aload_n 0, 1) := by decide +kernel
theorem dX12_become_27 : decode cX12_become 27 = .ok (.iload_n 1, 1) := by decide +kernel
theorem dX12_become_28 : decode cX12_become 28 = .ok (.invokevirtual 175, 3) := by decide +kernel
theorem dX12_become_31 : decode cX12_become 31 = .ok (.istore_n 3, 1) := by decide +kernel
theorem dX12_become_32 : decode cX12_become 32 = .ok (.aload_n 0, 1) := by decide +kernel
theorem dX12_become_33 : decode cX12_become 33 = .ok (.getfield 7, 3) := by decide +kernel
theorem dX12_become_36 : decode cX12_become 36 = .ok (.bipush 60, 2) := by decide +kernel
theorem dX12_become_38 : decode cX12_become 38 = .ok (.iconst 2, 1) := by decide +kernel
theorem dX12_become_39 : decode cX12_become 39 = .ok (.iload_n 1, 1) := by decide +kernel
theorem dX12_become_40 : decode cX12_become 40 = .ok (.imul, 1) := by decide +kernel
theorem dX12_become_41 : decode cX12_become 41 = .ok (.iadd, 1) := by decide +kernel
theorem dX12_become_42 : decode cX12_become 42 = .ok (.iload_n 2, 1) := by decide +kernel
theorem dX12_become_43 : decode cX12_become 43 = .ok (.bipush 10, 2) := by decide +kernel
theorem dX12_become_45 : decode cX12_become 45 = .ok (.idiv, 1) := by decide +kernel
theorem dX12_become_46 : decode cX12_become 46 = .ok (.iastore, 1) := by decide +kernel
theorem dX12_become_47 : decode cX12_become 47 = .ok (.aload_n 0, 1) := by decide +kernel
theorem dX12_become_48 : decode cX12_become 48 = .ok (.getfield 7, 3) := by decide +kernel
theorem dX12_become_51 : decode cX12_become 51 = .ok (.bipush 60, 2) := by decide +kernel
theorem dX12_become_53 : decode cX12_become 53 = .ok (.iconst 2, 1) := by decide +kernel
theorem dX12_become_54 : decode cX12_become 54 = .ok (.iload_n 1, 1) := by decide +kernel
theorem dX12_become_55 : decode cX12_become 55 = .ok (.imul, 1) := by decide +kernel
theorem dX12_become_56 : decode cX12_become 56 = .ok (.iadd, 1) := by decide +kernel
theorem dX12_become_57 : decode cX12_become 57 = .ok (.iconst 1, 1) := by decide +kernel
theorem dX12_become_58 : decode cX12_become 58 = .ok (.iadd, 1) := by decide +kernel
theorem dX12_become_59 : decode cX12_become 59 = .ok (.iload_n 2, 1) := by decide +kernel
theorem dX12_become_60 : decode cX12_become 60 = .ok (.bipush 10, 2) := by decide +kernel
theorem dX12_become_62 : decode cX12_become 62 = .ok (.irem, 1) := by decide +kernel
theorem dX12_become_63 : decode cX12_become 63 = .ok (.iastore, 1) := by decide +kernel
theorem dX12_become_64 : decode cX12_become 64 = .ok (.iload_n 3, 1) := by decide +kernel
theorem dX12_become_65 : decode cX12_become 65 = .ok (.ireturn, 1) := by decide +kernel
theorem dX12_above_0 : decode cX12_above 0 = .ok (.iload_n 0, 1) := by decide +kernel
theorem dX12_above_1 : decode cX12_above 1 = .ok (.iconst 4, 1) := by decide +kernel
theorem dX12_above_2 : decode cX12_above 2 = .ok (.if_icmp .ge 7, 3) := by decide +kernel
theorem dX12_above_5 : decode cX12_above 5 = .ok (.iconst 0, 1) := by decide +kernel
theorem dX12_above_6 : decode cX12_above 6 = .ok (.goto 6, 3) := by decide +kernel
theorem dX12_above_9 : decode cX12_above 9 = .ok (.iload_n 0, 1) := by decide +kernel
theorem dX12_above_10 : decode cX12_above 10 = .ok (.iconst 3, 1) := by decide +kernel
theorem dX12_above_11 : decode cX12_above 11 = .ok (.isub, 1) := by decide +kernel
theorem dX12_above_12 : decode cX12_above 12 = .ok (.ireturn, 1) := by decide +kernel
theorem dX12_as_0 : decode cX12_as 0 = .ok (.aload_n 0, 1) := by decide +kernel
theorem dX12_as_1 : decode cX12_as 1 = .ok (.iload_n 1, 1) := by decide +kernel
theorem dX12_as_2 : decode cX12_as 2 = .ok (.invokevirtual 180, 3) := by decide +kernel
theorem dX12_as_5 : decode cX12_as 5 = .ok (.ifCond .eq 15, 3) := by decide +kernel
theorem dX12_as_8 : decode cX12_as 8 = .ok (.iload_n 2, 1) := by decide +kernel
theorem dX12_as_9 : decode cX12_as 9 = .ok (.i2l, 1) := by decide +kernel
theorem dX12_as_10 : decode cX12_as 10 = .ok (.lconst 0, 1) := by decide +kernel
theorem dX12_as_11 : decode cX12_as 11 = .ok (.ldc2_w 183, 3) := by decide +kernel
theorem dX12_as_14 : decode cX12_as 14 = .ok (.invokestatic 55, 3) := by decide +kernel
theorem dX12_as_17 : decode cX12_as 17 = .ok (.ifCond .ne 9, 3) := by decide +kernel
theorem dX12_as_20 : decode cX12_as 20 = .ok (.aload_n 0, 1) := by decide +kernel
theorem dX12_as_21 : decode cX12_as 21 = .ok (.iconst 1, 1) := by decide +kernel
theorem dX12_as_22 : decode cX12_as 22 = .ok (.invokevirtual 119, 3) := by decide +kernel
theorem dX12_as_25 : decode cX12_as 25 = .ok (.ireturn, 1) := by decide +kernel
theorem dX12_as_26 : decode cX12_as 26 = .ok (.aload_n 0, 1) := by decide +kernel
theorem dX12_as_27 : decode cX12_as 27 = .ok (.iload_n 1, 1) := by decide +kernel
theorem dX12_as_28 : decode cX12_as 28 = .ok (.invokevirtual 175, 3) := by decide +kernel
theorem dX12_as_31 : decode cX12_as 31 = .ok (.istore_n 3, 1) := by decide +kernel
theorem dX12_as_32 : decode cX12_as 32 = .ok (.iload_n 2, 1) := by decide +kernel
theorem dX12_as_33 : decode cX12_as 33 = .ok (.ifCond .eq 16, 3) := by decide +kernel
theorem dX12_as_36 : decode cX12_as 36 = .ok (.iload_n 2, 1) := by decide +kernel
theorem dX12_as_37 : decode cX12_as 37 = .ok (.iload_n 3, 1) := by decide +kernel
theorem dX12_as_38 : decode cX12_as 38 = .ok (.if_icmp .eq 11, 3) := by decide +kernel
theorem dX12_as_41 : decode cX12_as 41 = .ok (.iload_n 2, 1) := by decide +kernel
theorem dX12_as_42 : decode cX12_as 42 = .ok (.iload_n 3, 1) := by decide +kernel
theorem dX12_as_43 : decode cX12_as 43 = .ok (.invokestatic 197, 3) := by decide +kernel
theorem dX12_as_46 : decode cX12_as 46 = .ok (.if_icmp .ne 11, 3) := by decide +kernel
theorem dX12_as_49 : decode cX12_as 49 = .ok (.aload_n 0, 1) := by decide +kernel
theorem dX12_as_50 : decode cX12_as 50 = .ok (.iload_n 1, 1) := by decide +kernel
theorem dX12_as_51 : decode cX12_as 51 = .ok (.invokevirtual 147, 3) := by decide +kernel
theorem dX12_as_54 : decode cX12_as 54 = .ok (.goto 8, 3) := by decide +kernel
theorem dX12_as_57 : decode cX12_as 57 = .ok (.aload_n 0, 1) := by decide +kernel
theorem dX12_as_58 : decode cX12_as 58 = .ok (.iconst 5, 1) := by decide +kernel
theorem dX12_as_59 : decode cX12_as 59 = .ok (.invokevirtual 119, 3) := by decide +kernel
theorem dX12_as_62 : decode cX12_as 62 = .ok (.ireturn, 1) := by decide +kernel
theorem dX12_goesOut_0 : decode cX12_goesOut 0 = .ok (.aload_n 0, 1) := by decide +kernel
theorem dX12_goesOut_1 : decode cX12_goesOut 1 = .ok (.getfield 7, 3) := by decide +kernel
theorem dX12_goesOut_4 : decode cX12_goesOut 4 = .ok (.iconst 4, 1) := by decide +kernel
theorem dX12_goesOut_5 : decode cX12_goesOut 5 = .ok (.aload_n 0, 1) := by decide +kernel
theorem dX12_goesOut_6 : decode cX12_goesOut 6 = .ok (.getfield 7, 3) := by decide +kernel
theorem dX12_goesOut_9 : decode cX12_goesOut 9 = .ok (.iconst 4, 1) := by decide +kernel
theorem dX12_goesOut_10 : decode cX12_goesOut 10 = .ok (.iaload, 1) := by decide +kernel
theorem dX12_goesOut_11 : decode cX12_goesOut 11 = .ok (.iload_n 1, 1) := by decide +kernel
theorem dX12_goesOut_12 : decode cX12_goesOut 12 = .ok (.iadd, 1) := by decide +kernel
theorem dX12_goesOut_13 : decode cX12_goesOut 13 = .ok (.ldc 200, 2) := by decide +kernel
theorem dX12_goesOut_15 : decode cX12_goesOut 15 = .ok (.if_icmp .le 8, 3) := by decide +kernel
theorem dX12_goesOut_18 : decode cX12_goesOut 18 = .ok (.ldc 200, 2) := by decide +kernel
theorem dX12_goesOut_20 : decode cX12_goesOut 20 = .ok (.goto 11, 3) := by decide +kernel
theorem dX12_goesOut_23 : decode cX12_goesOut 23 = .ok (.aload_n 0, 1) := by decide +kernel
theorem dX12_goesOut_24 : decode cX12_goesOut 24 = .ok (.getfield 7, 3) := by decide +kernel
theorem dX12_goesOut_27 : decode cX12_goesOut 27 = .ok (.iconst 4, 1) := by decide +kernel
theorem dX12_goesOut_28 : decode cX12_goesOut 28 = .ok (.iaload, 1) := by decide +kernel
theorem dX12_goesOut_29 : decode cX12_goesOut 29 = .ok (.iload_n 1, 1) := by decide +kernel
theorem dX12_goesOut_30 : decode cX12_goesOut 30 = .ok (.iadd, 1) := by decide +kernel
theorem dX12_goesOut_31 : decode cX12_goesOut 31 = .ok (.iastore, 1) := by decide +kernel
theorem dX12_goesOut_32 : decode cX12_goesOut 32 = .ok (.return_, 1) := by decide +kernel
theorem dX12_strokes_0 : decode cX12_strokes 0 = .ok (.aload_n 0, 1) := by decide +kernel
theorem dX12_strokes_1 : decode cX12_strokes 1 = .ok (.iload_n 1, 1) := by decide +kernel
theorem dX12_strokes_2 : decode cX12_strokes 2 = .ok (.aload_n 0, 1) := by decide +kernel
theorem dX12_strokes_3 : decode cX12_strokes 3 = .ok (.getfield 7, 3) := by decide +kernel
theorem dX12_strokes_6 : decode cX12_strokes 6 = .ok (.bipush 10, 2) := by decide +kernel
theorem dX12_strokes_8 : decode cX12_strokes 8 = .ok (.iload_n 2, 1) := by decide +kernel
theorem dX12_strokes_9 : decode cX12_strokes 9 = .ok (.iadd, 1) := by decide +kernel
theorem dX12_strokes_10 : decode cX12_strokes 10 = .ok (.iaload, 1) := by decide +kernel
theorem dX12_strokes_11 : decode cX12_strokes 11 = .ok (.invokevirtual 191, 3) := by decide +kernel
theorem dX12_strokes_14 : decode cX12_strokes 14 = .ok (.istore 4, 2) := by decide +kernel
theorem dX12_strokes_16 : decode cX12_strokes 16 = .ok (.aload_n 0, 1) := by decide +kernel
theorem dX12_strokes_17 : decode cX12_strokes 17 = .ok (.getfield 7, 3) := by decide +kernel
theorem dX12_strokes_20 : decode cX12_strokes 20 = .ok (.bipush 10, 2) := by decide +kernel
theorem dX12_strokes_22 : decode cX12_strokes 22 = .ok (.iload_n 2, 1) := by decide +kernel
theorem dX12_strokes_23 : decode cX12_strokes 23 = .ok (.iadd, 1) := by decide +kernel
theorem dX12_strokes_24 : decode cX12_strokes 24 = .ok (.dup2, 1) := by decide +kernel
theorem dX12_strokes_25 : decode cX12_strokes 25 = .ok (.iaload, 1) := by decide +kernel
theorem dX12_strokes_26 : decode cX12_strokes 26 = .ok (.iload 4, 2) := by decide +kernel
theorem dX12_strokes_28 : decode cX12_strokes 28 = .ok (.isub, 1) := by decide +kernel
theorem dX12_strokes_29 : decode cX12_strokes 29 = .ok (.iastore, 1) := by decide +kernel
theorem dX12_strokes_30 : decode cX12_strokes 30 = .ok (.aload_n 0, 1) := by decide +kernel
theorem dX12_strokes_31 : decode cX12_strokes 31 = .ok (.iload 4, 2) := by decide +kernel
theorem dX12_strokes_33 : decode cX12_strokes 33 = .ok (.invokevirtual 201, 3) := by decide +kernel
theorem dX12_strokes_36 : decode cX12_strokes 36 = .ok (.aload_n 0, 1) := by decide +kernel
theorem dX12_strokes_37 : decode cX12_strokes 37 = .ok (.iload_n 1, 1) := by decide +kernel
theorem dX12_strokes_38 : decode cX12_strokes 38 = .ok (.aload_n 0, 1) := by decide +kernel
theorem dX12_strokes_39 : decode cX12_strokes 39 = .ok (.getfield 7, 3) := by decide +kernel
theorem dX12_strokes_42 : decode cX12_strokes 42 = .ok (.bipush 35, 2) := by decide +kernel
theorem dX12_strokes_44 : decode cX12_strokes 44 = .ok (.iload_n 2, 1) := by decide +kernel
theorem dX12_strokes_45 : decode cX12_strokes 45 = .ok (.iadd, 1) := by decide +kernel
theorem dX12_strokes_46 : decode cX12_strokes 46 = .ok (.iaload, 1) := by decide +kernel
theorem dX12_strokes_47 : decode cX12_strokes 47 = .ok (.invokevirtual 194, 3) := by decide +kernel
theorem dX12_strokes_50 : decode cX12_strokes 50 = .ok (.istore 5, 2) := by decide +kernel
theorem dX12_strokes_52 : decode cX12_strokes 52 = .ok (.aload_n 0, 1) := by decide +kernel
theorem dX12_strokes_53 : decode cX12_strokes 53 = .ok (.getfield 7, 3) := by decide +kernel
theorem dX12_strokes_56 : decode cX12_strokes 56 = .ok (.iconst 3, 1) := by decide +kernel
theorem dX12_strokes_57 : decode cX12_strokes 57 = .ok (.aload_n 0, 1) := by decide +kernel
theorem dX12_strokes_58 : decode cX12_strokes 58 = .ok (.getfield 7, 3) := by decide +kernel
theorem dX12_strokes_61 : decode cX12_strokes 61 = .ok (.iconst 3, 1) := by decide +kernel
theorem dX12_strokes_62 : decode cX12_strokes 62 = .ok (.iaload, 1) := by decide +kernel
theorem dX12_strokes_63 : decode cX12_strokes 63 = .ok (.iload 5, 2) := by decide +kernel
theorem dX12_strokes_65 : decode cX12_strokes 65 = .ok (.iadd, 1) := by decide +kernel
theorem dX12_strokes_66 : decode cX12_strokes 66 = .ok (.ldc 200, 2) := by decide +kernel
theorem dX12_strokes_68 : decode cX12_strokes 68 = .ok (.if_icmp .le 8, 3) := by decide +kernel
theorem dX12_strokes_71 : decode cX12_strokes 71 = .ok (.ldc 200, 2) := by decide +kernel
theorem dX12_strokes_73 : decode cX12_strokes 73 = .ok (.goto 12, 3) := by decide +kernel
theorem dX12_strokes_76 : decode cX12_strokes 76 = .ok (.aload_n 0, 1) := by decide +kernel
theorem dX12_strokes_77 : decode cX12_strokes 77 = .ok (.getfield 7, 3) := by decide +kernel
theorem dX12_strokes_80 : decode cX12_strokes 80 = .ok (.iconst 3, 1) := by decide +kernel
theorem dX12_strokes_81 : decode cX12_strokes 81 = .ok (.iaload, 1) := by decide +kernel
theorem dX12_strokes_82 : decode cX12_strokes 82 = .ok (.iload 5, 2) := by decide +kernel
theorem dX12_strokes_84 : decode cX12_strokes 84 = .ok (.iadd, 1) := by decide +kernel
theorem dX12_strokes_85 : decode cX12_strokes 85 = .ok (.iastore, 1) := by decide +kernel
theorem dX12_strokes_86 : decode cX12_strokes 86 = .ok (.iload_n 2, 1) := by decide +kernel
theorem dX12_strokes_87 : decode cX12_strokes 87 = .ok (.istore 6, 2) := by decide +kernel
theorem dX12_strokes_89 : decode cX12_strokes 89 = .ok (.aload_n 0, 1) := by decide +kernel
theorem dX12_strokes_90 : decode cX12_strokes 90 = .ok (.iload_n 1, 1) := by decide +kernel
theorem dX12_strokes_91 : decode cX12_strokes 91 = .ok (.invokevirtual 185, 3) := by decide +kernel
theorem dX12_strokes_94 : decode cX12_strokes 94 = .ok (.istore 7, 2) := by decide +kernel
theorem dX12_strokes_96 : decode cX12_strokes 96 = .ok (.iload 7, 2) := by decide +kernel
theorem dX12_strokes_98 : decode cX12_strokes 98 = .ok (.ifCond .le 163, 3) := by decide +kernel
theorem dX12_strokes_101 : decode cX12_strokes 101 = .ok (.aload_n 0, 1) := by decide +kernel
theorem dX12_strokes_102 : decode cX12_strokes 102 = .ok (.iload_n 1, 1) := by decide +kernel
theorem dX12_strokes_103 : decode cX12_strokes 103 = .ok (.aload_n 0, 1) := by decide +kernel
theorem dX12_strokes_104 : decode cX12_strokes 104 = .ok (.getfield 7, 3) := by decide +kernel
theorem dX12_strokes_107 : decode cX12_strokes 107 = .ok (.bipush 10, 2) := by decide +kernel
theorem dX12_strokes_109 : decode cX12_strokes 109 = .ok (.iload 6, 2) := by decide +kernel
theorem dX12_strokes_111 : decode cX12_strokes 111 = .ok (.iadd, 1) := by decide +kernel
theorem dX12_strokes_112 : decode cX12_strokes 112 = .ok (.iaload, 1) := by decide +kernel
theorem dX12_strokes_113 : decode cX12_strokes 113 = .ok (.aload_n 0, 1) := by decide +kernel
theorem dX12_strokes_114 : decode cX12_strokes 114 = .ok (.getfield 7, 3) := by decide +kernel
theorem dX12_strokes_117 : decode cX12_strokes 117 = .ok (.bipush 35, 2) := by decide +kernel
theorem dX12_strokes_119 : decode cX12_strokes 119 = .ok (.iload 6, 2) := by decide +kernel
theorem dX12_strokes_121 : decode cX12_strokes 121 = .ok (.iadd, 1) := by decide +kernel
theorem dX12_strokes_122 : decode cX12_strokes 122 = .ok (.iaload, 1) := by decide +kernel
theorem dX12_strokes_123 : decode cX12_strokes 123 = .ok (.invokevirtual 188, 3) := by decide +kernel
theorem dX12_strokes_126 : decode cX12_strokes 126 = .ok (.istore 8, 2) := by decide +kernel
theorem dX12_strokes_128 : decode cX12_strokes 128 = .ok (.aload_n 0, 1) := by decide +kernel
theorem dX12_strokes_129 : decode cX12_strokes 129 = .ok (.iload 6, 2) := by decide +kernel
theorem dX12_strokes_131 : decode cX12_strokes 131 = .ok (.iload_n 3, 1) := by decide +kernel
theorem dX12_strokes_132 : decode cX12_strokes 132 = .ok (.invokevirtual 156, 3) := by decide +kernel
theorem dX12_strokes_135 : decode cX12_strokes 135 = .ok (.istore 9, 2) := by decide +kernel
theorem dX12_strokes_137 : decode cX12_strokes 137 = .ok (.iload 9, 2) := by decide +kernel
theorem dX12_strokes_139 : decode cX12_strokes 139 = .ok (.ifCond .ge 38, 3) := by decide +kernel
theorem dX12_strokes_142 : decode cX12_strokes 142 = .ok (.iconst 0, 1) := by decide +kernel
theorem dX12_strokes_143 : decode cX12_strokes 143 = .ok (.istore 7, 2) := by decide +kernel
theorem dX12_strokes_145 : decode cX12_strokes 145 = .ok (.aload_n 0, 1) := by decide +kernel
theorem dX12_strokes_146 : decode cX12_strokes 146 = .ok (.iload_n 3, 1) := by decide +kernel
theorem dX12_strokes_147 : decode cX12_strokes 147 = .ok (.invokevirtual 169, 3) := by decide +kernel
theorem dX12_strokes_150 : decode cX12_strokes 150 = .ok (.ifCond .eq 105, 3) := by decide +kernel
theorem dX12_strokes_153 : decode cX12_strokes 153 = .ok (.aload_n 0, 1) := by decide +kernel
theorem dX12_strokes_154 : decode cX12_strokes 154 = .ok (.getfield 7, 3) := by decide +kernel
theorem dX12_strokes_157 : decode cX12_strokes 157 = .ok (.bipush 10, 2) := by decide +kernel
theorem dX12_strokes_159 : decode cX12_strokes 159 = .ok (.iload 6, 2) := by decide +kernel
theorem dX12_strokes_161 : decode cX12_strokes 161 = .ok (.iadd, 1) := by decide +kernel
theorem dX12_strokes_162 : decode cX12_strokes 162 = .ok (.dup2, 1) := by decide +kernel
theorem dX12_strokes_163 : decode cX12_strokes 163 = .ok (.iaload, 1) := by decide +kernel
theorem dX12_strokes_164 : decode cX12_strokes 164 = .ok (.iload 8, 2) := by decide +kernel
theorem dX12_strokes_166 : decode cX12_strokes 166 = .ok (.isub, 1) := by decide +kernel
theorem dX12_strokes_167 : decode cX12_strokes 167 = .ok (.iastore, 1) := by decide +kernel
theorem dX12_strokes_168 : decode cX12_strokes 168 = .ok (.aload_n 0, 1) := by decide +kernel
theorem dX12_strokes_169 : decode cX12_strokes 169 = .ok (.iload 8, 2) := by decide +kernel
theorem dX12_strokes_171 : decode cX12_strokes 171 = .ok (.invokevirtual 201, 3) := by decide +kernel
theorem dX12_strokes_174 : decode cX12_strokes 174 = .ok (.goto 81, 3) := by decide +kernel
theorem dX12_strokes_177 : decode cX12_strokes 177 = .ok (.aload_n 0, 1) := by decide +kernel
theorem dX12_strokes_178 : decode cX12_strokes 178 = .ok (.getfield 7, 3) := by decide +kernel
theorem dX12_strokes_181 : decode cX12_strokes 181 = .ok (.bipush 10, 2) := by decide +kernel
theorem dX12_strokes_183 : decode cX12_strokes 183 = .ok (.iload 6, 2) := by decide +kernel
theorem dX12_strokes_185 : decode cX12_strokes 185 = .ok (.iadd, 1) := by decide +kernel
theorem dX12_strokes_186 : decode cX12_strokes 186 = .ok (.dup2, 1) := by decide +kernel
theorem dX12_strokes_187 : decode cX12_strokes 187 = .ok (.iaload, 1) := by decide +kernel
theorem dX12_strokes_188 : decode cX12_strokes 188 = .ok (.iload 8, 2) := by decide +kernel
theorem dX12_strokes_190 : decode cX12_strokes 190 = .ok (.isub, 1) := by decide +kernel
theorem dX12_strokes_191 : decode cX12_strokes 191 = .ok (.iastore, 1) := by decide +kernel
theorem dX12_strokes_192 : decode cX12_strokes 192 = .ok (.aload_n 0, 1) := by decide +kernel
theorem dX12_strokes_193 : decode cX12_strokes 193 = .ok (.getfield 7, 3) := by decide +kernel
theorem dX12_strokes_196 : decode cX12_strokes 196 = .ok (.bipush 10, 2) := by decide +kernel
theorem dX12_strokes_198 : decode cX12_strokes 198 = .ok (.iload 9, 2) := by decide +kernel
theorem dX12_strokes_200 : decode cX12_strokes 200 = .ok (.iadd, 1) := by decide +kernel
theorem dX12_strokes_201 : decode cX12_strokes 201 = .ok (.dup2, 1) := by decide +kernel
theorem dX12_strokes_202 : decode cX12_strokes 202 = .ok (.iaload, 1) := by decide +kernel
theorem dX12_strokes_203 : decode cX12_strokes 203 = .ok (.iload 8, 2) := by decide +kernel
theorem dX12_strokes_205 : decode cX12_strokes 205 = .ok (.iadd, 1) := by decide +kernel
theorem dX12_strokes_206 : decode cX12_strokes 206 = .ok (.iastore, 1) := by decide +kernel
theorem dX12_strokes_207 : decode cX12_strokes 207 = .ok (.aload_n 0, 1) := by decide +kernel
theorem dX12_strokes_208 : decode cX12_strokes 208 = .ok (.getfield 7, 3) := by decide +kernel
theorem dX12_strokes_211 : decode cX12_strokes 211 = .ok (.bipush 10, 2) := by decide +kernel
theorem dX12_strokes_213 : decode cX12_strokes 213 = .ok (.iload 9, 2) := by decide +kernel
theorem dX12_strokes_215 : decode cX12_strokes 215 = .ok (.iadd, 1) := by decide +kernel
theorem dX12_strokes_216 : decode cX12_strokes 216 = .ok (.iaload, 1) := by decide +kernel
theorem dX12_strokes_217 : decode cX12_strokes 217 = .ok (.bipush 99, 2) := by decide +kernel
theorem dX12_strokes_219 : decode cX12_strokes 219 = .ok (.if_icmp .le 32, 3) := by decide +kernel
theorem dX12_strokes_222 : decode cX12_strokes 222 = .ok (.aload_n 0, 1) := by decide +kernel
theorem dX12_strokes_223 : decode cX12_strokes 223 = .ok (.aload_n 0, 1) := by decide +kernel
theorem dX12_strokes_224 : decode cX12_strokes 224 = .ok (.getfield 7, 3) := by decide +kernel
theorem dX12_strokes_227 : decode cX12_strokes 227 = .ok (.bipush 10, 2) := by decide +kernel
theorem dX12_strokes_229 : decode cX12_strokes 229 = .ok (.iload 9, 2) := by decide +kernel
theorem dX12_strokes_231 : decode cX12_strokes 231 = .ok (.iadd, 1) := by decide +kernel
theorem dX12_strokes_232 : decode cX12_strokes 232 = .ok (.iaload, 1) := by decide +kernel
theorem dX12_strokes_233 : decode cX12_strokes 233 = .ok (.bipush 99, 2) := by decide +kernel
theorem dX12_strokes_235 : decode cX12_strokes 235 = .ok (.isub, 1) := by decide +kernel
theorem dX12_strokes_236 : decode cX12_strokes 236 = .ok (.invokevirtual 201, 3) := by decide +kernel
theorem dX12_strokes_239 : decode cX12_strokes 239 = .ok (.aload_n 0, 1) := by decide +kernel
theorem dX12_strokes_240 : decode cX12_strokes 240 = .ok (.getfield 7, 3) := by decide +kernel
theorem dX12_strokes_243 : decode cX12_strokes 243 = .ok (.bipush 10, 2) := by decide +kernel
theorem dX12_strokes_245 : decode cX12_strokes 245 = .ok (.iload 9, 2) := by decide +kernel
theorem dX12_strokes_247 : decode cX12_strokes 247 = .ok (.iadd, 1) := by decide +kernel
theorem dX12_strokes_248 : decode cX12_strokes 248 = .ok (.bipush 99, 2) := by decide +kernel
theorem dX12_strokes_250 : decode cX12_strokes 250 = .ok (.iastore, 1) := by decide +kernel
theorem dX12_strokes_251 : decode cX12_strokes 251 = .ok (.iload 9, 2) := by decide +kernel
theorem dX12_strokes_253 : decode cX12_strokes 253 = .ok (.istore 6, 2) := by decide +kernel
theorem dX12_strokes_255 : decode cX12_strokes 255 = .ok (.iinc 7 (-1), 3) := by decide +kernel
theorem dX12_strokes_258 : decode cX12_strokes 258 = .ok (.goto (-162), 3) := by decide +kernel
theorem dX12_strokes_261 : decode cX12_strokes 261 = .ok (.return_, 1) := by decide +kernel
theorem dX12_stroke_0 : decode cX12_stroke 0 = .ok (.aload_n 0, 1) := by decide +kernel
theorem dX12_stroke_1 : decode cX12_stroke 1 = .ok (.iload_n 1, 1) := by decide +kernel
theorem dX12_stroke_2 : decode cX12_stroke 2 = .ok (.invokevirtual 180, 3) := by decide +kernel
theorem dX12_stroke_5 : decode cX12_stroke 5 = .ok (.ifCond .eq 18, 3) := by decide +kernel
theorem dX12_stroke_8 : decode cX12_stroke 8 = .ok (.aload_n 0, 1) := by decide +kernel
theorem dX12_stroke_9 : decode cX12_stroke 9 = .ok (.iload_n 2, 1) := by decide +kernel
theorem dX12_stroke_10 : decode cX12_stroke 10 = .ok (.invokevirtual 137, 3) := by decide +kernel
theorem dX12_stroke_13 : decode cX12_stroke 13 = .ok (.ifCond .eq 10, 3) := by decide +kernel
theorem dX12_stroke_16 : decode cX12_stroke 16 = .ok (.iload_n 3, 1) := by decide +kernel
theorem dX12_stroke_17 : decode cX12_stroke 17 = .ok (.invokestatic 166, 3) := by decide +kernel
theorem dX12_stroke_20 : decode cX12_stroke 20 = .ok (.ifCond .ne 9, 3) := by decide +kernel
theorem dX12_stroke_23 : decode cX12_stroke 23 = .ok (.aload_n 0, 1) := by decide +kernel
theorem dX12_stroke_24 : decode cX12_stroke 24 = .ok (.iconst 1, 1) := by decide +kernel
theorem dX12_stroke_25 : decode cX12_stroke 25 = .ok (.invokevirtual 119, 3) := by decide +kernel
theorem dX12_stroke_28 : decode cX12_stroke 28 = .ok (.ireturn, 1) := by decide +kernel
theorem dX12_stroke_29 : decode cX12_stroke 29 = .ok (.aload_n 0, 1) := by decide +kernel
theorem dX12_stroke_30 : decode cX12_stroke 30 = .ok (.iload_n 1, 1) := by decide +kernel
theorem dX12_stroke_31 : decode cX12_stroke 31 = .ok (.iload_n 2, 1) := by decide +kernel
theorem dX12_stroke_32 : decode cX12_stroke 32 = .ok (.iload_n 3, 1) := by decide +kernel
theorem dX12_stroke_33 : decode cX12_stroke 33 = .ok (.invokevirtual 205, 3) := by decide +kernel
theorem dX12_stroke_36 : decode cX12_stroke 36 = .ok (.aload_n 0, 1) := by decide +kernel
theorem dX12_stroke_37 : decode cX12_stroke 37 = .ok (.getfield 7, 3) := by decide +kernel
theorem dX12_stroke_40 : decode cX12_stroke 40 = .ok (.bipush 10, 2) := by decide +kernel
theorem dX12_stroke_42 : decode cX12_stroke 42 = .ok (.iload_n 2, 1) := by decide +kernel
theorem dX12_stroke_43 : decode cX12_stroke 43 = .ok (.iadd, 1) := by decide +kernel
theorem dX12_stroke_44 : decode cX12_stroke 44 = .ok (.iaload, 1) := by decide +kernel
theorem dX12_stroke_45 : decode cX12_stroke 45 = .ok (.ireturn, 1) := by decide +kernel
theorem dX12_nightGoes_0 : decode cX12_nightGoes 0 = .ok (.iconst 0, 1) := by decide +kernel
theorem dX12_nightGoes_1 : decode cX12_nightGoes 1 = .ok (.istore_n 1, 1) := by decide +kernel
theorem dX12_nightGoes_2 : decode cX12_nightGoes 2 = .ok (.iload_n 1, 1) := by decide +kernel
theorem dX12_nightGoes_3 : decode cX12_nightGoes 3 = .ok (.aload_n 0, 1) := by decide +kernel
theorem dX12_nightGoes_4 : decode cX12_nightGoes 4 = .ok (.invokevirtual 51, 3) := by decide +kernel
theorem dX12_nightGoes_7 : decode cX12_nightGoes 7 = .ok (.if_icmp .ge 76, 3) := by decide +kernel
theorem dX12_nightGoes_10 : decode cX12_nightGoes 10 = .ok (.aload_n 0, 1) := by decide +kernel
theorem dX12_nightGoes_11 : decode cX12_nightGoes 11 = .ok (.getfield 7, 3) := by decide +kernel
theorem dX12_nightGoes_14 : decode cX12_nightGoes 14 = .ok (.bipush 10, 2) := by decide +kernel
theorem dX12_nightGoes_16 : decode cX12_nightGoes 16 = .ok (.iload_n 1, 1) := by decide +kernel
theorem dX12_nightGoes_17 : decode cX12_nightGoes 17 = .ok (.iadd, 1) := by decide +kernel
theorem dX12_nightGoes_18 : decode cX12_nightGoes 18 = .ok (.iaload, 1) := by decide +kernel
theorem dX12_nightGoes_19 : decode cX12_nightGoes 19 = .ok (.aload_n 0, 1) := by decide +kernel
theorem dX12_nightGoes_20 : decode cX12_nightGoes 20 = .ok (.getfield 7, 3) := by decide +kernel
theorem dX12_nightGoes_23 : decode cX12_nightGoes 23 = .ok (.bipush 35, 2) := by decide +kernel
theorem dX12_nightGoes_25 : decode cX12_nightGoes 25 = .ok (.iload_n 1, 1) := by decide +kernel
theorem dX12_nightGoes_26 : decode cX12_nightGoes 26 = .ok (.iadd, 1) := by decide +kernel
theorem dX12_nightGoes_27 : decode cX12_nightGoes 27 = .ok (.iaload, 1) := by decide +kernel
theorem dX12_nightGoes_28 : decode cX12_nightGoes 28 = .ok (.isub, 1) := by decide +kernel
theorem dX12_nightGoes_29 : decode cX12_nightGoes 29 = .ok (.istore_n 2, 1) := by decide +kernel
theorem dX12_nightGoes_30 : decode cX12_nightGoes 30 = .ok (.aload_n 0, 1) := by decide +kernel
theorem dX12_nightGoes_31 : decode cX12_nightGoes 31 = .ok (.getfield 7, 3) := by decide +kernel
theorem dX12_nightGoes_34 : decode cX12_nightGoes 34 = .ok (.bipush 10, 2) := by decide +kernel
theorem dX12_nightGoes_36 : decode cX12_nightGoes 36 = .ok (.iload_n 1, 1) := by decide +kernel
theorem dX12_nightGoes_37 : decode cX12_nightGoes 37 = .ok (.iadd, 1) := by decide +kernel
theorem dX12_nightGoes_38 : decode cX12_nightGoes 38 = .ok (.iload_n 2, 1) := by decide +kernel
theorem dX12_nightGoes_39 : decode cX12_nightGoes 39 = .ok (.ifCond .ge 7, 3) := by decide +kernel
theorem dX12_nightGoes_42 : decode cX12_nightGoes 42 = .ok (.iconst 0, 1) := by decide +kernel
theorem dX12_nightGoes_43 : decode cX12_nightGoes 43 = .ok (.goto 4, 3) := by decide +kernel
theorem dX12_nightGoes_46 : decode cX12_nightGoes 46 = .ok (.iload_n 2, 1) := by decide +kernel
theorem dX12_nightGoes_47 : decode cX12_nightGoes 47 = .ok (.iastore, 1) := by decide +kernel
theorem dX12_nightGoes_48 : decode cX12_nightGoes 48 = .ok (.aload_n 0, 1) := by decide +kernel
theorem dX12_nightGoes_49 : decode cX12_nightGoes 49 = .ok (.getfield 7, 3) := by decide +kernel
theorem dX12_nightGoes_52 : decode cX12_nightGoes 52 = .ok (.bipush 35, 2) := by decide +kernel
theorem dX12_nightGoes_54 : decode cX12_nightGoes 54 = .ok (.iload_n 1, 1) := by decide +kernel
theorem dX12_nightGoes_55 : decode cX12_nightGoes 55 = .ok (.iadd, 1) := by decide +kernel
theorem dX12_nightGoes_56 : decode cX12_nightGoes 56 = .ok (.dup2, 1) := by decide +kernel
theorem dX12_nightGoes_57 : decode cX12_nightGoes 57 = .ok (.iaload, 1) := by decide +kernel
theorem dX12_nightGoes_58 : decode cX12_nightGoes 58 = .ok (.aload_n 0, 1) := by decide +kernel
theorem dX12_nightGoes_59 : decode cX12_nightGoes 59 = .ok (.getfield 7, 3) := by decide +kernel
theorem dX12_nightGoes_62 : decode cX12_nightGoes 62 = .ok (.bipush 35, 2) := by decide +kernel
theorem dX12_nightGoes_64 : decode cX12_nightGoes 64 = .ok (.iload_n 1, 1) := by decide +kernel
theorem dX12_nightGoes_65 : decode cX12_nightGoes 65 = .ok (.iadd, 1) := by decide +kernel
theorem dX12_nightGoes_66 : decode cX12_nightGoes 66 = .ok (.iaload, 1) := by decide +kernel
theorem dX12_nightGoes_67 : decode cX12_nightGoes 67 = .ok (.ifCond .le 7, 3) := by decide +kernel
theorem dX12_nightGoes_70 : decode cX12_nightGoes 70 = .ok (.iconst 1, 1) := by decide +kernel
theorem dX12_nightGoes_71 : decode cX12_nightGoes 71 = .ok (.goto 4, 3) := by decide +kernel
theorem dX12_nightGoes_74 : decode cX12_nightGoes 74 = .ok (.iconst 0, 1) := by decide +kernel
theorem dX12_nightGoes_75 : decode cX12_nightGoes 75 = .ok (.isub, 1) := by decide +kernel
theorem dX12_nightGoes_76 : decode cX12_nightGoes 76 = .ok (.iastore, 1) := by decide +kernel
theorem dX12_nightGoes_77 : decode cX12_nightGoes 77 = .ok (.iinc 1 1, 3) := by decide +kernel
theorem dX12_nightGoes_80 : decode cX12_nightGoes 80 = .ok (.goto (-78), 3) := by decide +kernel
theorem dX12_nightGoes_83 : decode cX12_nightGoes 83 = .ok (.aload_n 0, 1) := by decide +kernel
theorem dX12_nightGoes_84 : decode cX12_nightGoes 84 = .ok (.getfield 7, 3) := by decide +kernel
theorem dX12_nightGoes_87 : decode cX12_nightGoes 87 = .ok (.iconst 5, 1) := by decide +kernel
theorem dX12_nightGoes_88 : decode cX12_nightGoes 88 = .ok (.dup2, 1) := by decide +kernel
theorem dX12_nightGoes_89 : decode cX12_nightGoes 89 = .ok (.iaload, 1) := by decide +kernel
theorem dX12_nightGoes_90 : decode cX12_nightGoes 90 = .ok (.iconst 1, 1) := by decide +kernel
theorem dX12_nightGoes_91 : decode cX12_nightGoes 91 = .ok (.iadd, 1) := by decide +kernel
theorem dX12_nightGoes_92 : decode cX12_nightGoes 92 = .ok (.iastore, 1) := by decide +kernel
theorem dX12_nightGoes_93 : decode cX12_nightGoes 93 = .ok (.return_, 1) := by decide +kernel
theorem dX12_nights_0 : decode cX12_nights 0 = .ok (.iload_n 1, 1) := by decide +kernel
theorem dX12_nights_1 : decode cX12_nights 1 = .ok (.i2l, 1) := by decide +kernel
theorem dX12_nights_2 : decode cX12_nights 2 = .ok (.lconst 1, 1) := by decide +kernel
theorem dX12_nights_3 : decode cX12_nights 3 = .ok (.ldc2_w 209, 3) := by decide +kernel
theorem dX12_nights_6 : decode cX12_nights 6 = .ok (.invokestatic 55, 3) := by decide +kernel
theorem dX12_nights_9 : decode cX12_nights 9 = .ok (.ifCond .ne 9, 3) := by decide +kernel
theorem dX12_nights_12 : decode cX12_nights 12 = .ok (.aload_n 0, 1) := by decide +kernel
theorem dX12_nights_13 : decode cX12_nights 13 = .ok (.iconst 1, 1) := by decide +kernel
theorem dX12_nights_14 : decode cX12_nights 14 = .ok (.invokevirtual 119, 3) := by decide +kernel
theorem dX12_nights_17 : decode cX12_nights 17 = .ok (.ireturn, 1) := by decide +kernel
theorem dX12_nights_18 : decode cX12_nights 18 = .ok (.aload_n 0, 1) := by decide +kernel
theorem dX12_nights_19 : decode cX12_nights 19 = .ok (.getfield 7, 3) := by decide +kernel
theorem dX12_nights_22 : decode cX12_nights 22 = .ok (.iconst 5, 1) := by decide +kernel
theorem dX12_nights_23 : decode cX12_nights 23 = .ok (.iaload, 1) := by decide +kernel
theorem dX12_nights_24 : decode cX12_nights 24 = .ok (.iload_n 1, 1) := by decide +kernel
theorem dX12_nights_25 : decode cX12_nights 25 = .ok (.iadd, 1) := by decide +kernel
theorem dX12_nights_26 : decode cX12_nights 26 = .ok (.sipush 999, 3) := by decide +kernel
theorem dX12_nights_29 : decode cX12_nights 29 = .ok (.if_icmp .le 9, 3) := by decide +kernel
theorem dX12_nights_32 : decode cX12_nights 32 = .ok (.aload_n 0, 1) := by decide +kernel
theorem dX12_nights_33 : decode cX12_nights 33 = .ok (.iconst 3, 1) := by decide +kernel
theorem dX12_nights_34 : decode cX12_nights 34 = .ok (.invokevirtual 119, 3) := by decide +kernel
theorem dX12_nights_37 : decode cX12_nights 37 = .ok (.ireturn, 1) := by decide +kernel
theorem dX12_nights_38 : decode cX12_nights 38 = .ok (.iconst 0, 1) := by decide +kernel
theorem dX12_nights_39 : decode cX12_nights 39 = .ok (.istore_n 2, 1) := by decide +kernel
theorem dX12_nights_40 : decode cX12_nights 40 = .ok (.iload_n 2, 1) := by decide +kernel
theorem dX12_nights_41 : decode cX12_nights 41 = .ok (.iload_n 1, 1) := by decide +kernel
theorem dX12_nights_42 : decode cX12_nights 42 = .ok (.if_icmp .ge 13, 3) := by decide +kernel
theorem dX12_nights_45 : decode cX12_nights 45 = .ok (.aload_n 0, 1) := by decide +kernel
theorem dX12_nights_46 : decode cX12_nights 46 = .ok (.invokevirtual 211, 3) := by decide +kernel
theorem dX12_nights_49 : decode cX12_nights 49 = .ok (.iinc 2 1, 3) := by decide +kernel
theorem dX12_nights_52 : decode cX12_nights 52 = .ok (.goto (-12), 3) := by decide +kernel
theorem dX12_nights_55 : decode cX12_nights 55 = .ok (.aload_n 0, 1) := by decide +kernel
theorem dX12_nights_56 : decode cX12_nights 56 = .ok (.invokevirtual 214, 3) := by decide +kernel
theorem dX12_nights_59 : decode cX12_nights 59 = .ok (.ireturn, 1) := by decide +kernel
theorem dX12_drawn_0 : decode cX12_drawn 0 = .ok (.aload_n 0, 1) := by decide +kernel
theorem dX12_drawn_1 : decode cX12_drawn 1 = .ok (.getfield 7, 3) := by decide +kernel
theorem dX12_drawn_4 : decode cX12_drawn 4 = .ok (.bipush 6, 2) := by decide +kernel
theorem dX12_drawn_6 : decode cX12_drawn 6 = .ok (.aload_n 0, 1) := by decide +kernel
theorem dX12_drawn_7 : decode cX12_drawn 7 = .ok (.getfield 7, 3) := by decide +kernel
theorem dX12_drawn_10 : decode cX12_drawn 10 = .ok (.bipush 6, 2) := by decide +kernel
theorem dX12_drawn_12 : decode cX12_drawn 12 = .ok (.iaload, 1) := by decide +kernel
theorem dX12_drawn_13 : decode cX12_drawn 13 = .ok (.ldc 217, 2) := by decide +kernel
theorem dX12_drawn_15 : decode cX12_drawn 15 = .ok (.imul, 1) := by decide +kernel
theorem dX12_drawn_16 : decode cX12_drawn 16 = .ok (.sipush 12345, 3) := by decide +kernel
theorem dX12_drawn_19 : decode cX12_drawn 19 = .ok (.iadd, 1) := by decide +kernel
theorem dX12_drawn_20 : decode cX12_drawn 20 = .ok (.iastore, 1) := by decide +kernel
theorem dX12_drawn_21 : decode cX12_drawn 21 = .ok (.aload_n 0, 1) := by decide +kernel
theorem dX12_drawn_22 : decode cX12_drawn 22 = .ok (.getfield 7, 3) := by decide +kernel
theorem dX12_drawn_25 : decode cX12_drawn 25 = .ok (.bipush 6, 2) := by decide +kernel
theorem dX12_drawn_27 : decode cX12_drawn 27 = .ok (.iaload, 1) := by decide +kernel
theorem dX12_drawn_28 : decode cX12_drawn 28 = .ok (.bipush 8, 2) := by decide +kernel
theorem dX12_drawn_30 : decode cX12_drawn 30 = .ok (.iushr, 1) := by decide +kernel
theorem dX12_drawn_31 : decode cX12_drawn 31 = .ok (.ireturn, 1) := by decide +kernel
theorem dX12_days_0 : decode cX12_days 0 = .ok (.iload_n 1, 1) := by decide +kernel
theorem dX12_days_1 : decode cX12_days 1 = .ok (.i2l, 1) := by decide +kernel
theorem dX12_days_2 : decode cX12_days 2 = .ok (.lconst 1, 1) := by decide +kernel
theorem dX12_days_3 : decode cX12_days 3 = .ok (.ldc2_w 209, 3) := by decide +kernel
theorem dX12_days_6 : decode cX12_days 6 = .ok (.invokestatic 55, 3) := by decide +kernel
theorem dX12_days_9 : decode cX12_days 9 = .ok (.ifCond .ne 9, 3) := by decide +kernel
theorem dX12_days_12 : decode cX12_days 12 = .ok (.aload_n 0, 1) := by decide +kernel
theorem dX12_days_13 : decode cX12_days 13 = .ok (.iconst 1, 1) := by decide +kernel
theorem dX12_days_14 : decode cX12_days 14 = .ok (.invokevirtual 119, 3) := by decide +kernel
theorem dX12_days_17 : decode cX12_days 17 = .ok (.ireturn, 1) := by decide +kernel
theorem dX12_days_18 : decode cX12_days 18 = .ok (.aload_n 0, 1) := by decide +kernel
theorem dX12_days_19 : decode cX12_days 19 = .ok (.getfield 7, 3) := by decide +kernel
theorem dX12_days_22 : decode cX12_days 22 = .ok (.iconst 5, 1) := by decide +kernel
theorem dX12_days_23 : decode cX12_days 23 = .ok (.iaload, 1) := by decide +kernel
theorem dX12_days_24 : decode cX12_days 24 = .ok (.iload_n 1, 1) := by decide +kernel
theorem dX12_days_25 : decode cX12_days 25 = .ok (.iadd, 1) := by decide +kernel
theorem dX12_days_26 : decode cX12_days 26 = .ok (.sipush 999, 3) := by decide +kernel
theorem dX12_days_29 : decode cX12_days 29 = .ok (.if_icmp .gt 12, 3) := by decide +kernel
theorem dX12_days_32 : decode cX12_days 32 = .ok (.aload_n 0, 1) := by decide +kernel
theorem dX12_days_33 : decode cX12_days 33 = .ok (.getfield 7, 3) := by decide +kernel
theorem dX12_days_36 : decode cX12_days 36 = .ok (.iconst 2, 1) := by decide +kernel
theorem dX12_days_37 : decode cX12_days 37 = .ok (.iaload, 1) := by decide +kernel
theorem dX12_days_38 : decode cX12_days 38 = .ok (.ifCond .ne 9, 3) := by decide +kernel
theorem dX12_days_41 : decode cX12_days 41 = .ok (.aload_n 0, 1) := by decide +kernel
theorem dX12_days_42 : decode cX12_days 42 = .ok (.iconst 3, 1) := by decide +kernel
theorem dX12_days_43 : decode cX12_days 43 = .ok (.invokevirtual 119, 3) := by decide +kernel
theorem dX12_days_46 : decode cX12_days 46 = .ok (.ireturn, 1) := by decide +kernel
theorem dX12_days_47 : decode cX12_days 47 = .ok (.iconst 0, 1) := by decide +kernel
theorem dX12_days_48 : decode cX12_days 48 = .ok (.istore_n 2, 1) := by decide +kernel
theorem dX12_days_49 : decode cX12_days 49 = .ok (.iload_n 2, 1) := by decide +kernel
theorem dX12_days_50 : decode cX12_days 50 = .ok (.iload_n 1, 1) := by decide +kernel
theorem dX12_days_51 : decode cX12_days 51 = .ok (.if_icmp .ge 53, 3) := by decide +kernel
theorem dX12_days_54 : decode cX12_days 54 = .ok (.aload_n 0, 1) := by decide +kernel
theorem dX12_days_55 : decode cX12_days 55 = .ok (.invokevirtual 218, 3) := by decide +kernel
theorem dX12_days_58 : decode cX12_days 58 = .ok (.aload_n 0, 1) := by decide +kernel
theorem dX12_days_59 : decode cX12_days 59 = .ok (.getfield 7, 3) := by decide +kernel
theorem dX12_days_62 : decode cX12_days 62 = .ok (.iconst 2, 1) := by decide +kernel
theorem dX12_days_63 : decode cX12_days 63 = .ok (.iaload, 1) := by decide +kernel
theorem dX12_days_64 : decode cX12_days 64 = .ok (.irem, 1) := by decide +kernel
theorem dX12_days_65 : decode cX12_days 65 = .ok (.istore_n 3, 1) := by decide +kernel
theorem dX12_days_66 : decode cX12_days 66 = .ok (.aload_n 0, 1) := by decide +kernel
theorem dX12_days_67 : decode cX12_days 67 = .ok (.invokevirtual 218, 3) := by decide +kernel
theorem dX12_days_70 : decode cX12_days 70 = .ok (.aload_n 0, 1) := by decide +kernel
theorem dX12_days_71 : decode cX12_days 71 = .ok (.invokevirtual 51, 3) := by decide +kernel
theorem dX12_days_74 : decode cX12_days 74 = .ok (.irem, 1) := by decide +kernel
theorem dX12_days_75 : decode cX12_days 75 = .ok (.istore 4, 2) := by decide +kernel
theorem dX12_days_77 : decode cX12_days 77 = .ok (.aload_n 0, 1) := by decide +kernel
theorem dX12_days_78 : decode cX12_days 78 = .ok (.invokevirtual 218, 3) := by decide +kernel
theorem dX12_days_81 : decode cX12_days 81 = .ok (.iconst 4, 1) := by decide +kernel
theorem dX12_days_82 : decode cX12_days 82 = .ok (.irem, 1) := by decide +kernel
theorem dX12_days_83 : decode cX12_days 83 = .ok (.istore 5, 2) := by decide +kernel
theorem dX12_days_85 : decode cX12_days 85 = .ok (.aload_n 0, 1) := by decide +kernel
theorem dX12_days_86 : decode cX12_days 86 = .ok (.iload_n 3, 1) := by decide +kernel
theorem dX12_days_87 : decode cX12_days 87 = .ok (.iload 4, 2) := by decide +kernel
theorem dX12_days_89 : decode cX12_days 89 = .ok (.iload 5, 2) := by decide +kernel
theorem dX12_days_91 : decode cX12_days 91 = .ok (.invokevirtual 205, 3) := by decide +kernel
theorem dX12_days_94 : decode cX12_days 94 = .ok (.aload_n 0, 1) := by decide +kernel
theorem dX12_days_95 : decode cX12_days 95 = .ok (.invokevirtual 211, 3) := by decide +kernel
theorem dX12_days_98 : decode cX12_days 98 = .ok (.iinc 2 1, 3) := by decide +kernel
theorem dX12_days_101 : decode cX12_days 101 = .ok (.goto (-52), 3) := by decide +kernel
theorem dX12_days_104 : decode cX12_days 104 = .ok (.aload_n 0, 1) := by decide +kernel
theorem dX12_days_105 : decode cX12_days 105 = .ok (.invokevirtual 214, 3) := by decide +kernel
theorem dX12_days_108 : decode cX12_days 108 = .ok (.ireturn, 1) := by decide +kernel
theorem dX12_findBubbles_0 : decode cX12_findBubbles 0 = .ok (.aload_n 0, 1) := by decide +kernel
theorem dX12_findBubbles_1 : decode cX12_findBubbles 1 = .ok (.iconst 0, 1) := by decide +kernel
theorem dX12_findBubbles_2 : decode cX12_findBubbles 2 = .ok (.putfield 221, 3) := by decide +kernel
theorem dX12_findBubbles_5 : decode cX12_findBubbles 5 = .ok (.aload_n 0, 1) := by decide +kernel
theorem dX12_findBubbles_6 : decode cX12_findBubbles 6 = .ok (.iconst 0, 1) := by decide +kernel
theorem dX12_findBubbles_7 : decode cX12_findBubbles 7 = .ok (.putfield 224, 3) := by decide +kernel
theorem dX12_findBubbles_10 : decode cX12_findBubbles 10 = .ok (.aload_n 0, 1) := by decide +kernel
theorem dX12_findBubbles_11 : decode cX12_findBubbles 11 = .ok (.iconst 0, 1) := by decide +kernel
theorem dX12_findBubbles_12 : decode cX12_findBubbles 12 = .ok (.putfield 227, 3) := by decide +kernel
theorem dX12_findBubbles_15 : decode cX12_findBubbles 15 = .ok (.iconst 0, 1) := by decide +kernel
theorem dX12_findBubbles_16 : decode cX12_findBubbles 16 = .ok (.istore_n 1, 1) := by decide +kernel
theorem dX12_findBubbles_17 : decode cX12_findBubbles 17 = .ok (.iconst 0, 1) := by decide +kernel
theorem dX12_findBubbles_18 : decode cX12_findBubbles 18 = .ok (.istore_n 2, 1) := by decide +kernel
theorem dX12_findBubbles_19 : decode cX12_findBubbles 19 = .ok (.iload_n 2, 1) := by decide +kernel
theorem dX12_findBubbles_20 : decode cX12_findBubbles 20 = .ok (.aload_n 0, 1) := by decide +kernel
theorem dX12_findBubbles_21 : decode cX12_findBubbles 21 = .ok (.invokevirtual 51, 3) := by decide +kernel
theorem dX12_findBubbles_24 : decode cX12_findBubbles 24 = .ok (.if_icmp .ge 80, 3) := by decide +kernel
theorem dX12_findBubbles_27 : decode cX12_findBubbles 27 = .ok (.aload_n 0, 1) := by decide +kernel
theorem dX12_findBubbles_28 : decode cX12_findBubbles 28 = .ok (.getfield 7, 3) := by decide +kernel
theorem dX12_findBubbles_31 : decode cX12_findBubbles 31 = .ok (.bipush 10, 2) := by decide +kernel
theorem dX12_findBubbles_33 : decode cX12_findBubbles 33 = .ok (.iload_n 2, 1) := by decide +kernel
theorem dX12_findBubbles_34 : decode cX12_findBubbles 34 = .ok (.iadd, 1) := by decide +kernel
theorem dX12_findBubbles_35 : decode cX12_findBubbles 35 = .ok (.iaload, 1) := by decide +kernel
theorem dX12_findBubbles_36 : decode cX12_findBubbles 36 = .ok (.ifCond .eq 62, 3) := by decide +kernel
theorem dX12_findBubbles_39 : decode cX12_findBubbles 39 = .ok (.iload_n 1, 1) := by decide +kernel
theorem dX12_findBubbles_40 : decode cX12_findBubbles 40 = .ok (.iload_n 2, 1) := by decide +kernel
theorem dX12_findBubbles_41 : decode cX12_findBubbles 41 = .ok (.ishr, 1) := by decide +kernel
theorem dX12_findBubbles_42 : decode cX12_findBubbles 42 = .ok (.iconst 1, 1) := by decide +kernel
theorem dX12_findBubbles_43 : decode cX12_findBubbles 43 = .ok (.iand, 1) := by decide +kernel
theorem dX12_findBubbles_44 : decode cX12_findBubbles 44 = .ok (.iconst 1, 1) := by decide +kernel
theorem dX12_findBubbles_45 : decode cX12_findBubbles 45 = .ok (.if_icmp .ne 6, 3) := by decide +kernel
theorem dX12_findBubbles_48 : decode cX12_findBubbles 48 = .ok (.goto 50, 3) := by decide +kernel
theorem dX12_findBubbles_51 : decode cX12_findBubbles 51 = .ok (.aload_n 0, 1) := by decide +kernel
theorem dX12_findBubbles_52 : decode cX12_findBubbles 52 = .ok (.iload_n 2, 1) := by decide +kernel
theorem dX12_findBubbles_53 : decode cX12_findBubbles 53 = .ok (.invokevirtual 160, 3) := by decide +kernel
theorem dX12_findBubbles_56 : decode cX12_findBubbles 56 = .ok (.istore_n 3, 1) := by decide +kernel
theorem dX12_findBubbles_57 : decode cX12_findBubbles 57 = .ok (.aload_n 0, 1) := by decide +kernel
theorem dX12_findBubbles_58 : decode cX12_findBubbles 58 = .ok (.iload_n 3, 1) := by decide +kernel
theorem dX12_findBubbles_59 : decode cX12_findBubbles 59 = .ok (.invokevirtual 163, 3) := by decide +kernel
theorem dX12_findBubbles_62 : decode cX12_findBubbles 62 = .ok (.istore 4, 2) := by decide +kernel
theorem dX12_findBubbles_64 : decode cX12_findBubbles 64 = .ok (.iload_n 1, 1) := by decide +kernel
theorem dX12_findBubbles_65 : decode cX12_findBubbles 65 = .ok (.iload_n 3, 1) := by decide +kernel
theorem dX12_findBubbles_66 : decode cX12_findBubbles 66 = .ok (.ior, 1) := by decide +kernel
theorem dX12_findBubbles_67 : decode cX12_findBubbles 67 = .ok (.istore_n 1, 1) := by decide +kernel
theorem dX12_findBubbles_68 : decode cX12_findBubbles 68 = .ok (.aload_n 0, 1) := by decide +kernel
theorem dX12_findBubbles_69 : decode cX12_findBubbles 69 = .ok (.dup, 1) := by decide +kernel
theorem dX12_findBubbles_70 : decode cX12_findBubbles 70 = .ok (.getfield 221, 3) := by decide +kernel
theorem dX12_findBubbles_73 : decode cX12_findBubbles 73 = .ok (.iconst 1, 1) := by decide +kernel
theorem dX12_findBubbles_74 : decode cX12_findBubbles 74 = .ok (.iadd, 1) := by decide +kernel
theorem dX12_findBubbles_75 : decode cX12_findBubbles 75 = .ok (.putfield 221, 3) := by decide +kernel
theorem dX12_findBubbles_78 : decode cX12_findBubbles 78 = .ok (.iload 4, 2) := by decide +kernel
theorem dX12_findBubbles_80 : decode cX12_findBubbles 80 = .ok (.aload_n 0, 1) := by decide +kernel
theorem dX12_findBubbles_81 : decode cX12_findBubbles 81 = .ok (.getfield 224, 3) := by decide +kernel
theorem dX12_findBubbles_84 : decode cX12_findBubbles 84 = .ok (.if_icmp .le 14, 3) := by decide +kernel
theorem dX12_findBubbles_87 : decode cX12_findBubbles 87 = .ok (.aload_n 0, 1) := by decide +kernel
theorem dX12_findBubbles_88 : decode cX12_findBubbles 88 = .ok (.iload 4, 2) := by decide +kernel
theorem dX12_findBubbles_90 : decode cX12_findBubbles 90 = .ok (.putfield 224, 3) := by decide +kernel
theorem dX12_findBubbles_93 : decode cX12_findBubbles 93 = .ok (.aload_n 0, 1) := by decide +kernel
theorem dX12_findBubbles_94 : decode cX12_findBubbles 94 = .ok (.iload_n 2, 1) := by decide +kernel
theorem dX12_findBubbles_95 : decode cX12_findBubbles 95 = .ok (.putfield 227, 3) := by decide +kernel
theorem dX12_findBubbles_98 : decode cX12_findBubbles 98 = .ok (.iinc 2 1, 3) := by decide +kernel
theorem dX12_findBubbles_101 : decode cX12_findBubbles 101 = .ok (.goto (-82), 3) := by decide +kernel
theorem dX12_findBubbles_104 : decode cX12_findBubbles 104 = .ok (.return_, 1) := by decide +kernel
theorem dX12_bubbles_0 : decode cX12_bubbles 0 = .ok (.aload_n 0, 1) := by decide +kernel
theorem dX12_bubbles_1 : decode cX12_bubbles 1 = .ok (.invokevirtual 230, 3) := by decide +kernel
theorem dX12_bubbles_4 : decode cX12_bubbles 4 = .ok (.aload_n 0, 1) := by decide +kernel
theorem dX12_bubbles_5 : decode cX12_bubbles 5 = .ok (.getfield 221, 3) := by decide +kernel
theorem dX12_bubbles_8 : decode cX12_bubbles 8 = .ok (.ireturn, 1) := by decide +kernel
theorem dX12_biggest_0 : decode cX12_biggest 0 = .ok (.iload_n 1, 1) := by decide +kernel
theorem dX12_biggest_1 : decode cX12_biggest 1 = .ok (.i2l, 1) := by decide +kernel
theorem dX12_biggest_2 : decode cX12_biggest 2 = .ok (.lconst 0, 1) := by decide +kernel
theorem dX12_biggest_3 : decode cX12_biggest 3 = .ok (.lconst 1, 1) := by decide +kernel
theorem dX12_biggest_4 : decode cX12_biggest 4 = .ok (.invokestatic 55, 3) := by decide +kernel
theorem dX12_biggest_7 : decode cX12_biggest 7 = .ok (.ifCond .ne 9, 3) := by decide +kernel
theorem dX12_biggest_10 : decode cX12_biggest 10 = .ok (.aload_n 0, 1) := by decide +kernel
theorem dX12_biggest_11 : decode cX12_biggest 11 = .ok (.iconst 1, 1) := by decide +kernel
theorem dX12_biggest_12 : decode cX12_biggest 12 = .ok (.invokevirtual 119, 3) := by decide +kernel
theorem dX12_biggest_15 : decode cX12_biggest 15 = .ok (.ireturn, 1) := by decide +kernel
theorem dX12_biggest_16 : decode cX12_biggest 16 = .ok (.aload_n 0, 1) := by decide +kernel
theorem dX12_biggest_17 : decode cX12_biggest 17 = .ok (.invokevirtual 230, 3) := by decide +kernel
theorem dX12_biggest_20 : decode cX12_biggest 20 = .ok (.aload_n 0, 1) := by decide +kernel
theorem dX12_biggest_21 : decode cX12_biggest 21 = .ok (.getfield 221, 3) := by decide +kernel
theorem dX12_biggest_24 : decode cX12_biggest 24 = .ok (.ifCond .ne 11, 3) := by decide +kernel
theorem dX12_biggest_27 : decode cX12_biggest 27 = .ok (.aload_n 0, 1) := by decide +kernel
theorem dX12_biggest_28 : decode cX12_biggest 28 = .ok (.iconst 2, 1) := by decide +kernel
theorem dX12_biggest_29 : decode cX12_biggest 29 = .ok (.invokevirtual 119, 3) := by decide +kernel
theorem dX12_biggest_32 : decode cX12_biggest 32 = .ok (.goto 18, 3) := by decide +kernel
theorem dX12_biggest_35 : decode cX12_biggest 35 = .ok (.iload_n 1, 1) := by decide +kernel
theorem dX12_biggest_36 : decode cX12_biggest 36 = .ok (.ifCond .ne 10, 3) := by decide +kernel
theorem dX12_biggest_39 : decode cX12_biggest 39 = .ok (.aload_n 0, 1) := by decide +kernel
theorem dX12_biggest_40 : decode cX12_biggest 40 = .ok (.getfield 224, 3) := by decide +kernel
theorem dX12_biggest_43 : decode cX12_biggest 43 = .ok (.goto 7, 3) := by decide +kernel
theorem dX12_biggest_46 : decode cX12_biggest 46 = .ok (.aload_n 0, 1) := by decide +kernel
theorem dX12_biggest_47 : decode cX12_biggest 47 = .ok (.getfield 227, 3) := by decide +kernel
theorem dX12_biggest_50 : decode cX12_biggest 50 = .ok (.ireturn, 1) := by decide +kernel
theorem dX12_wayOut_0 : decode cX12_wayOut 0 = .ok (.aload_n 0, 1) := by decide +kernel
theorem dX12_wayOut_1 : decode cX12_wayOut 1 = .ok (.iload_n 1, 1) := by decide +kernel
theorem dX12_wayOut_2 : decode cX12_wayOut 2 = .ok (.invokevirtual 137, 3) := by decide +kernel
theorem dX12_wayOut_5 : decode cX12_wayOut 5 = .ok (.ifCond .ne 9, 3) := by decide +kernel
theorem dX12_wayOut_8 : decode cX12_wayOut 8 = .ok (.aload_n 0, 1) := by decide +kernel
theorem dX12_wayOut_9 : decode cX12_wayOut 9 = .ok (.iconst 1, 1) := by decide +kernel
theorem dX12_wayOut_10 : decode cX12_wayOut 10 = .ok (.invokevirtual 119, 3) := by decide +kernel
theorem dX12_wayOut_13 : decode cX12_wayOut 13 = .ok (.ireturn, 1) := by decide +kernel
theorem dX12_wayOut_14 : decode cX12_wayOut 14 = .ok (.iload_n 1, 1) := by decide +kernel
theorem dX12_wayOut_15 : decode cX12_wayOut 15 = .ok (.aload_n 0, 1) := by decide +kernel
theorem dX12_wayOut_16 : decode cX12_wayOut 16 = .ok (.getfield 7, 3) := by decide +kernel
theorem dX12_wayOut_19 : decode cX12_wayOut 19 = .ok (.iconst 1, 1) := by decide +kernel
theorem dX12_wayOut_20 : decode cX12_wayOut 20 = .ok (.iaload, 1) := by decide +kernel
theorem dX12_wayOut_21 : decode cX12_wayOut 21 = .ok (.idiv, 1) := by decide +kernel
theorem dX12_wayOut_22 : decode cX12_wayOut 22 = .ok (.istore_n 2, 1) := by decide +kernel
theorem dX12_wayOut_23 : decode cX12_wayOut 23 = .ok (.iload_n 1, 1) := by decide +kernel
theorem dX12_wayOut_24 : decode cX12_wayOut 24 = .ok (.aload_n 0, 1) := by decide +kernel
theorem dX12_wayOut_25 : decode cX12_wayOut 25 = .ok (.getfield 7, 3) := by decide +kernel
theorem dX12_wayOut_28 : decode cX12_wayOut 28 = .ok (.iconst 1, 1) := by decide +kernel
theorem dX12_wayOut_29 : decode cX12_wayOut 29 = .ok (.iaload, 1) := by decide +kernel
theorem dX12_wayOut_30 : decode cX12_wayOut 30 = .ok (.irem, 1) := by decide +kernel
theorem dX12_wayOut_31 : decode cX12_wayOut 31 = .ok (.istore_n 3, 1) := by decide +kernel
theorem dX12_wayOut_32 : decode cX12_wayOut 32 = .ok (.bipush 99, 2) := by decide +kernel
theorem dX12_wayOut_34 : decode cX12_wayOut 34 = .ok (.istore 4, 2) := by decide +kernel
theorem dX12_wayOut_36 : decode cX12_wayOut 36 = .ok (.iconst 0, 1) := by decide +kernel
theorem dX12_wayOut_37 : decode cX12_wayOut 37 = .ok (.istore 5, 2) := by decide +kernel
theorem dX12_wayOut_39 : decode cX12_wayOut 39 = .ok (.iload 5, 2) := by decide +kernel
theorem dX12_wayOut_41 : decode cX12_wayOut 41 = .ok (.iconst 4, 1) := by decide +kernel
theorem dX12_wayOut_42 : decode cX12_wayOut 42 = .ok (.if_icmp .ge 84, 3) := by decide +kernel
theorem dX12_wayOut_45 : decode cX12_wayOut 45 = .ok (.iload 5, 2) := by decide +kernel
theorem dX12_wayOut_47 : decode cX12_wayOut 47 = .ok (.ifCond .ne 7, 3) := by decide +kernel
theorem dX12_wayOut_50 : decode cX12_wayOut 50 = .ok (.iload_n 2, 1) := by decide +kernel
theorem dX12_wayOut_51 : decode cX12_wayOut 51 = .ok (.goto 42, 3) := by decide +kernel
theorem dX12_wayOut_54 : decode cX12_wayOut 54 = .ok (.iload 5, 2) := by decide +kernel
theorem dX12_wayOut_56 : decode cX12_wayOut 56 = .ok (.iconst 1, 1) := by decide +kernel
theorem dX12_wayOut_57 : decode cX12_wayOut 57 = .ok (.if_icmp .ne 16, 3) := by decide +kernel
theorem dX12_wayOut_60 : decode cX12_wayOut 60 = .ok (.aload_n 0, 1) := by decide +kernel
theorem dX12_wayOut_61 : decode cX12_wayOut 61 = .ok (.getfield 7, 3) := by decide +kernel
theorem dX12_wayOut_64 : decode cX12_wayOut 64 = .ok (.iconst 1, 1) := by decide +kernel
theorem dX12_wayOut_65 : decode cX12_wayOut 65 = .ok (.iaload, 1) := by decide +kernel
theorem dX12_wayOut_66 : decode cX12_wayOut 66 = .ok (.iconst 1, 1) := by decide +kernel
theorem dX12_wayOut_67 : decode cX12_wayOut 67 = .ok (.isub, 1) := by decide +kernel
theorem dX12_wayOut_68 : decode cX12_wayOut 68 = .ok (.iload_n 3, 1) := by decide +kernel
theorem dX12_wayOut_69 : decode cX12_wayOut 69 = .ok (.isub, 1) := by decide +kernel
theorem dX12_wayOut_70 : decode cX12_wayOut 70 = .ok (.goto 23, 3) := by decide +kernel
