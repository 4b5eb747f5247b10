theorem dX12_wayOut_73 : decode cX12_wayOut 73 = .ok (.iload 5, 2) := by decide +kernel
theorem dX12_wayOut_75 : decode cX12_wayOut 75 = .ok (.iconst 2, 1) := by decide +kernel
theorem dX12_wayOut_76 : decode cX12_wayOut 76 = .ok (.if_icmp .ne 16, 3) := by decide +kernel
theorem dX12_wayOut_79 : decode cX12_wayOut 79 = .ok (.aload_n 0, 1) := by decide +kernel
theorem dX12_wayOut_80 : decode cX12_wayOut 80 = .ok (.getfield 7, 3) := by decide +kernel
theorem dX12_wayOut_83 : decode cX12_wayOut 83 = .ok (.iconst 0, 1) := by decide +kernel
theorem dX12_wayOut_84 : decode cX12_wayOut 84 = .ok (.iaload, 1) := by decide +kernel
theorem dX12_wayOut_85 : decode cX12_wayOut 85 = .ok (.iconst 1, 1) := by decide +kernel
theorem dX12_wayOut_86 : decode cX12_wayOut 86 = .ok (.isub, 1) := by decide +kernel
theorem dX12_wayOut_87 : decode cX12_wayOut 87 = .ok (.iload_n 2, 1) := by decide +kernel
theorem dX12_wayOut_88 : decode cX12_wayOut 88 = .ok (.isub, 1) := by decide +kernel
theorem dX12_wayOut_89 : decode cX12_wayOut 89 = .ok (.goto 4, 3) := by decide +kernel
theorem dX12_wayOut_92 : decode cX12_wayOut 92 = .ok (.iload_n 3, 1) := by decide +kernel
theorem dX12_wayOut_93 : decode cX12_wayOut 93 = .ok (.istore 6, 2) := by decide +kernel
theorem dX12_wayOut_95 : decode cX12_wayOut 95 = .ok (.aload_n 0, 1) := by decide +kernel
theorem dX12_wayOut_96 : decode cX12_wayOut 96 = .ok (.iload 5, 2) := by decide +kernel
theorem dX12_wayOut_98 : decode cX12_wayOut 98 = .ok (.invokevirtual 169, 3) := by decide +kernel
theorem dX12_wayOut_101 : decode cX12_wayOut 101 = .ok (.ifCond .eq 15, 3) := by decide +kernel
theorem dX12_wayOut_104 : decode cX12_wayOut 104 = .ok (.iload 6, 2) := by decide +kernel
theorem dX12_wayOut_106 : decode cX12_wayOut 106 = .ok (.iload 4, 2) := by decide +kernel
theorem dX12_wayOut_108 : decode cX12_wayOut 108 = .ok (.if_icmp .ge 8, 3) := by decide +kernel
theorem dX12_wayOut_111 : decode cX12_wayOut 111 = .ok (.iload 6, 2) := by decide +kernel
theorem dX12_wayOut_113 : decode cX12_wayOut 113 = .ok (.goto 5, 3) := by decide +kernel
theorem dX12_wayOut_116 : decode cX12_wayOut 116 = .ok (.iload 4, 2) := by decide +kernel
theorem dX12_wayOut_118 : decode cX12_wayOut 118 = .ok (.istore 4, 2) := by decide +kernel
theorem dX12_wayOut_120 : decode cX12_wayOut 120 = .ok (.iinc 5 1, 3) := by decide +kernel
theorem dX12_wayOut_123 : decode cX12_wayOut 123 = .ok (.goto (-84), 3) := by decide +kernel
theorem dX12_wayOut_126 : decode cX12_wayOut 126 = .ok (.iload 4, 2) := by decide +kernel
theorem dX12_wayOut_128 : decode cX12_wayOut 128 = .ok (.bipush 99, 2) := by decide +kernel
theorem dX12_wayOut_130 : decode cX12_wayOut 130 = .ok (.if_icmp .ne 11, 3) := by decide +kernel
theorem dX12_wayOut_133 : decode cX12_wayOut 133 = .ok (.aload_n 0, 1) := by decide +kernel
theorem dX12_wayOut_134 : decode cX12_wayOut 134 = .ok (.iconst 2, 1) := by decide +kernel
theorem dX12_wayOut_135 : decode cX12_wayOut 135 = .ok (.invokevirtual 119, 3) := by decide +kernel
theorem dX12_wayOut_138 : decode cX12_wayOut 138 = .ok (.goto 5, 3) := by decide +kernel
theorem dX12_wayOut_141 : decode cX12_wayOut 141 = .ok (.iload 4, 2) := by decide +kernel
theorem dX12_wayOut_143 : decode cX12_wayOut 143 = .ok (.ireturn, 1) := by decide +kernel
theorem dX12_bestOf_0 : decode cX12_bestOf 0 = .ok (.iconst (-1), 1) := by decide +kernel
theorem dX12_bestOf_1 : decode cX12_bestOf 1 = .ok (.istore_n 3, 1) := by decide +kernel
theorem dX12_bestOf_2 : decode cX12_bestOf 2 = .ok (.aload_n 0, 1) := by decide +kernel
theorem dX12_bestOf_3 : decode cX12_bestOf 3 = .ok (.iconst 0, 1) := by decide +kernel
theorem dX12_bestOf_4 : decode cX12_bestOf 4 = .ok (.putfield 233, 3) := by decide +kernel
theorem dX12_bestOf_7 : decode cX12_bestOf 7 = .ok (.iconst 0, 1) := by decide +kernel
theorem dX12_bestOf_8 : decode cX12_bestOf 8 = .ok (.istore 4, 2) := by decide +kernel
theorem dX12_bestOf_10 : decode cX12_bestOf 10 = .ok (.iload 4, 2) := by decide +kernel
theorem dX12_bestOf_12 : decode cX12_bestOf 12 = .ok (.aload_n 0, 1) := by decide +kernel
theorem dX12_bestOf_13 : decode cX12_bestOf 13 = .ok (.invokevirtual 51, 3) := by decide +kernel
theorem dX12_bestOf_16 : decode cX12_bestOf 16 = .ok (.if_icmp .ge 77, 3) := by decide +kernel
theorem dX12_bestOf_19 : decode cX12_bestOf 19 = .ok (.iconst 0, 1) := by decide +kernel
theorem dX12_bestOf_20 : decode cX12_bestOf 20 = .ok (.istore 5, 2) := by decide +kernel
theorem dX12_bestOf_22 : decode cX12_bestOf 22 = .ok (.iload 5, 2) := by decide +kernel
theorem dX12_bestOf_24 : decode cX12_bestOf 24 = .ok (.iconst 4, 1) := by decide +kernel
theorem dX12_bestOf_25 : decode cX12_bestOf 25 = .ok (.if_icmp .ge 62, 3) := by decide +kernel
theorem dX12_bestOf_28 : decode cX12_bestOf 28 = .ok (.aload_n 0, 1) := by decide +kernel
theorem dX12_bestOf_29 : decode cX12_bestOf 29 = .ok (.iload_n 2, 1) := by decide +kernel
theorem dX12_bestOf_30 : decode cX12_bestOf 30 = .ok (.invokevirtual 236, 3) := by decide +kernel
theorem dX12_bestOf_33 : decode cX12_bestOf 33 = .ok (.aload_n 0, 1) := by decide +kernel
theorem dX12_bestOf_34 : decode cX12_bestOf 34 = .ok (.iload_n 1, 1) := by decide +kernel
theorem dX12_bestOf_35 : decode cX12_bestOf 35 = .ok (.iload 4, 2) := by decide +kernel
theorem dX12_bestOf_37 : decode cX12_bestOf 37 = .ok (.iload 5, 2) := by decide +kernel
theorem dX12_bestOf_39 : decode cX12_bestOf 39 = .ok (.invokevirtual 205, 3) := by decide +kernel
theorem dX12_bestOf_42 : decode cX12_bestOf 42 = .ok (.aload_n 0, 1) := by decide +kernel
theorem dX12_bestOf_43 : decode cX12_bestOf 43 = .ok (.invokevirtual 153, 3) := by decide +kernel
theorem dX12_bestOf_46 : decode cX12_bestOf 46 = .ok (.istore 6, 2) := by decide +kernel
theorem dX12_bestOf_48 : decode cX12_bestOf 48 = .ok (.aload_n 0, 1) := by decide +kernel
theorem dX12_bestOf_49 : decode cX12_bestOf 49 = .ok (.iload_n 2, 1) := by decide +kernel
theorem dX12_bestOf_50 : decode cX12_bestOf 50 = .ok (.invokevirtual 239, 3) := by decide +kernel
theorem dX12_bestOf_53 : decode cX12_bestOf 53 = .ok (.iload_n 3, 1) := by decide +kernel
theorem dX12_bestOf_54 : decode cX12_bestOf 54 = .ok (.ifCond .lt 12, 3) := by decide +kernel
theorem dX12_bestOf_57 : decode cX12_bestOf 57 = .ok (.iload 6, 2) := by decide +kernel
theorem dX12_bestOf_59 : decode cX12_bestOf 59 = .ok (.aload_n 0, 1) := by decide +kernel
theorem dX12_bestOf_60 : decode cX12_bestOf 60 = .ok (.getfield 233, 3) := by decide +kernel
theorem dX12_bestOf_63 : decode cX12_bestOf 63 = .ok (.if_icmp .ge 18, 3) := by decide +kernel
theorem dX12_bestOf_66 : decode cX12_bestOf 66 = .ok (.bipush 10, 2) := by decide +kernel
theorem dX12_bestOf_68 : decode cX12_bestOf 68 = .ok (.iload 4, 2) := by decide +kernel
theorem dX12_bestOf_70 : decode cX12_bestOf 70 = .ok (.imul, 1) := by decide +kernel
theorem dX12_bestOf_71 : decode cX12_bestOf 71 = .ok (.iload 5, 2) := by decide +kernel
theorem dX12_bestOf_73 : decode cX12_bestOf 73 = .ok (.iadd, 1) := by decide +kernel
theorem dX12_bestOf_74 : decode cX12_bestOf 74 = .ok (.istore_n 3, 1) := by decide +kernel
theorem dX12_bestOf_75 : decode cX12_bestOf 75 = .ok (.aload_n 0, 1) := by decide +kernel
theorem dX12_bestOf_76 : decode cX12_bestOf 76 = .ok (.iload 6, 2) := by decide +kernel
theorem dX12_bestOf_78 : decode cX12_bestOf 78 = .ok (.putfield 233, 3) := by decide +kernel
theorem dX12_bestOf_81 : decode cX12_bestOf 81 = .ok (.iinc 5 1, 3) := by decide +kernel
theorem dX12_bestOf_84 : decode cX12_bestOf 84 = .ok (.goto (-62), 3) := by decide +kernel
theorem dX12_bestOf_87 : decode cX12_bestOf 87 = .ok (.iinc 4 1, 3) := by decide +kernel
theorem dX12_bestOf_90 : decode cX12_bestOf 90 = .ok (.goto (-80), 3) := by decide +kernel
theorem dX12_bestOf_93 : decode cX12_bestOf 93 = .ok (.iload_n 3, 1) := by decide +kernel
theorem dX12_bestOf_94 : decode cX12_bestOf 94 = .ok (.ireturn, 1) := by decide +kernel
theorem dX12_best_0 : decode cX12_best 0 = .ok (.aload_n 0, 1) := by decide +kernel
theorem dX12_best_1 : decode cX12_best 1 = .ok (.iload_n 1, 1) := by decide +kernel
theorem dX12_best_2 : decode cX12_best 2 = .ok (.invokevirtual 180, 3) := by decide +kernel
theorem dX12_best_5 : decode cX12_best 5 = .ok (.ifCond .eq 13, 3) := by decide +kernel
theorem dX12_best_8 : decode cX12_best 8 = .ok (.iload_n 2, 1) := by decide +kernel
theorem dX12_best_9 : decode cX12_best 9 = .ok (.i2l, 1) := by decide +kernel
theorem dX12_best_10 : decode cX12_best 10 = .ok (.lconst 0, 1) := by decide +kernel
theorem dX12_best_11 : decode cX12_best 11 = .ok (.lconst 1, 1) := by decide +kernel
theorem dX12_best_12 : decode cX12_best 12 = .ok (.invokestatic 55, 3) := by decide +kernel
theorem dX12_best_15 : decode cX12_best 15 = .ok (.ifCond .ne 9, 3) := by decide +kernel
theorem dX12_best_18 : decode cX12_best 18 = .ok (.aload_n 0, 1) := by decide +kernel
theorem dX12_best_19 : decode cX12_best 19 = .ok (.iconst 1, 1) := by decide +kernel
theorem dX12_best_20 : decode cX12_best 20 = .ok (.invokevirtual 119, 3) := by decide +kernel
theorem dX12_best_23 : decode cX12_best 23 = .ok (.ireturn, 1) := by decide +kernel
theorem dX12_best_24 : decode cX12_best 24 = .ok (.aload_n 0, 1) := by decide +kernel
theorem dX12_best_25 : decode cX12_best 25 = .ok (.iload_n 1, 1) := by decide +kernel
theorem dX12_best_26 : decode cX12_best 26 = .ok (.iconst 0, 1) := by decide +kernel
theorem dX12_best_27 : decode cX12_best 27 = .ok (.invokevirtual 242, 3) := by decide +kernel
theorem dX12_best_30 : decode cX12_best 30 = .ok (.istore_n 3, 1) := by decide +kernel
theorem dX12_best_31 : decode cX12_best 31 = .ok (.iload_n 2, 1) := by decide +kernel
theorem dX12_best_32 : decode cX12_best 32 = .ok (.ifCond .ne 7, 3) := by decide +kernel
theorem dX12_best_35 : decode cX12_best 35 = .ok (.iload_n 3, 1) := by decide +kernel
theorem dX12_best_36 : decode cX12_best 36 = .ok (.goto 7, 3) := by decide +kernel
theorem dX12_best_39 : decode cX12_best 39 = .ok (.aload_n 0, 1) := by decide +kernel
theorem dX12_best_40 : decode cX12_best 40 = .ok (.getfield 233, 3) := by decide +kernel
theorem dX12_best_43 : decode cX12_best 43 = .ok (.ireturn, 1) := by decide +kernel
theorem dX12_bestTwo_0 : decode cX12_bestTwo 0 = .ok (.aload_n 0, 1) := by decide +kernel
theorem dX12_bestTwo_1 : decode cX12_bestTwo 1 = .ok (.iload_n 1, 1) := by decide +kernel
theorem dX12_bestTwo_2 : decode cX12_bestTwo 2 = .ok (.invokevirtual 180, 3) := by decide +kernel
theorem dX12_bestTwo_5 : decode cX12_bestTwo 5 = .ok (.ifCond .eq 13, 3) := by decide +kernel
theorem dX12_bestTwo_8 : decode cX12_bestTwo 8 = .ok (.iload_n 2, 1) := by decide +kernel
theorem dX12_bestTwo_9 : decode cX12_bestTwo 9 = .ok (.i2l, 1) := by decide +kernel
theorem dX12_bestTwo_10 : decode cX12_bestTwo 10 = .ok (.lconst 0, 1) := by decide +kernel
theorem dX12_bestTwo_11 : decode cX12_bestTwo 11 = .ok (.lconst 1, 1) := by decide +kernel
theorem dX12_bestTwo_12 : decode cX12_bestTwo 12 = .ok (.invokestatic 55, 3) := by decide +kernel
theorem dX12_bestTwo_15 : decode cX12_bestTwo 15 = .ok (.ifCond .ne 9, 3) := by decide +kernel
theorem dX12_bestTwo_18 : decode cX12_bestTwo 18 = .ok (.aload_n 0, 1) := by decide +kernel
theorem dX12_bestTwo_19 : decode cX12_bestTwo 19 = .ok (.iconst 1, 1) := by decide +kernel
theorem dX12_bestTwo_20 : decode cX12_bestTwo 20 = .ok (.invokevirtual 119, 3) := by decide +kernel
theorem dX12_bestTwo_23 : decode cX12_bestTwo 23 = .ok (.ireturn, 1) := by decide +kernel
theorem dX12_bestTwo_24 : decode cX12_bestTwo 24 = .ok (.aload_n 0, 1) := by decide +kernel
theorem dX12_bestTwo_25 : decode cX12_bestTwo 25 = .ok (.invokevirtual 245, 3) := by decide +kernel
theorem dX12_bestTwo_28 : decode cX12_bestTwo 28 = .ok (.iconst (-1), 1) := by decide +kernel
theorem dX12_bestTwo_29 : decode cX12_bestTwo 29 = .ok (.istore_n 3, 1) := by decide +kernel
theorem dX12_bestTwo_30 : decode cX12_bestTwo 30 = .ok (.iconst 0, 1) := by decide +kernel
theorem dX12_bestTwo_31 : decode cX12_bestTwo 31 = .ok (.istore 4, 2) := by decide +kernel
theorem dX12_bestTwo_33 : decode cX12_bestTwo 33 = .ok (.iconst 0, 1) := by decide +kernel
theorem dX12_bestTwo_34 : decode cX12_bestTwo 34 = .ok (.istore 5, 2) := by decide +kernel
theorem dX12_bestTwo_36 : decode cX12_bestTwo 36 = .ok (.iload 5, 2) := by decide +kernel
theorem dX12_bestTwo_38 : decode cX12_bestTwo 38 = .ok (.aload_n 0, 1) := by decide +kernel
theorem dX12_bestTwo_39 : decode cX12_bestTwo 39 = .ok (.invokevirtual 51, 3) := by decide +kernel
theorem dX12_bestTwo_42 : decode cX12_bestTwo 42 = .ok (.if_icmp .ge 84, 3) := by decide +kernel
theorem dX12_bestTwo_45 : decode cX12_bestTwo 45 = .ok (.iconst 0, 1) := by decide +kernel
theorem dX12_bestTwo_46 : decode cX12_bestTwo 46 = .ok (.istore 6, 2) := by decide +kernel
theorem dX12_bestTwo_48 : decode cX12_bestTwo 48 = .ok (.iload 6, 2) := by decide +kernel
theorem dX12_bestTwo_50 : decode cX12_bestTwo 50 = .ok (.iconst 4, 1) := by decide +kernel
theorem dX12_bestTwo_51 : decode cX12_bestTwo 51 = .ok (.if_icmp .ge 69, 3) := by decide +kernel
theorem dX12_bestTwo_54 : decode cX12_bestTwo 54 = .ok (.aload_n 0, 1) := by decide +kernel
theorem dX12_bestTwo_55 : decode cX12_bestTwo 55 = .ok (.iconst 0, 1) := by decide +kernel
theorem dX12_bestTwo_56 : decode cX12_bestTwo 56 = .ok (.invokevirtual 236, 3) := by decide +kernel
theorem dX12_bestTwo_59 : decode cX12_bestTwo 59 = .ok (.aload_n 0, 1) := by decide +kernel
theorem dX12_bestTwo_60 : decode cX12_bestTwo 60 = .ok (.iload_n 1, 1) := by decide +kernel
theorem dX12_bestTwo_61 : decode cX12_bestTwo 61 = .ok (.iload 5, 2) := by decide +kernel
theorem dX12_bestTwo_63 : decode cX12_bestTwo 63 = .ok (.iload 6, 2) := by decide +kernel
theorem dX12_bestTwo_65 : decode cX12_bestTwo 65 = .ok (.invokevirtual 205, 3) := by decide +kernel
theorem dX12_bestTwo_68 : decode cX12_bestTwo 68 = .ok (.aload_n 0, 1) := by decide +kernel
theorem dX12_bestTwo_69 : decode cX12_bestTwo 69 = .ok (.iload_n 1, 1) := by decide +kernel
theorem dX12_bestTwo_70 : decode cX12_bestTwo 70 = .ok (.iconst 1, 1) := by decide +kernel
theorem dX12_bestTwo_71 : decode cX12_bestTwo 71 = .ok (.invokevirtual 242, 3) := by decide +kernel
theorem dX12_bestTwo_74 : decode cX12_bestTwo 74 = .ok (.istore 7, 2) := by decide +kernel
theorem dX12_bestTwo_76 : decode cX12_bestTwo 76 = .ok (.aload_n 0, 1) := by decide +kernel
theorem dX12_bestTwo_77 : decode cX12_bestTwo 77 = .ok (.iconst 0, 1) := by decide +kernel
theorem dX12_bestTwo_78 : decode cX12_bestTwo 78 = .ok (.invokevirtual 239, 3) := by decide +kernel
theorem dX12_bestTwo_81 : decode cX12_bestTwo 81 = .ok (.iload 7, 2) := by decide +kernel
theorem dX12_bestTwo_83 : decode cX12_bestTwo 83 = .ok (.ifCond .lt 31, 3) := by decide +kernel
theorem dX12_bestTwo_86 : decode cX12_bestTwo 86 = .ok (.iload_n 3, 1) := by decide +kernel
theorem dX12_bestTwo_87 : decode cX12_bestTwo 87 = .ok (.ifCond .lt 12, 3) := by decide +kernel
theorem dX12_bestTwo_90 : decode cX12_bestTwo 90 = .ok (.aload_n 0, 1) := by decide +kernel
theorem dX12_bestTwo_91 : decode cX12_bestTwo 91 = .ok (.getfield 233, 3) := by decide +kernel
theorem dX12_bestTwo_94 : decode cX12_bestTwo 94 = .ok (.iload 4, 2) := by decide +kernel
theorem dX12_bestTwo_96 : decode cX12_bestTwo 96 = .ok (.if_icmp .ge 18, 3) := by decide +kernel
theorem dX12_bestTwo_99 : decode cX12_bestTwo 99 = .ok (.bipush 10, 2) := by decide +kernel
theorem dX12_bestTwo_101 : decode cX12_bestTwo 101 = .ok (.iload 5, 2) := by decide +kernel
theorem dX12_bestTwo_103 : decode cX12_bestTwo 103 = .ok (.imul, 1) := by decide +kernel
theorem dX12_bestTwo_104 : decode cX12_bestTwo 104 = .ok (.iload 6, 2) := by decide +kernel
theorem dX12_bestTwo_106 : decode cX12_bestTwo 106 = .ok (.iadd, 1) := by decide +kernel
theorem dX12_bestTwo_107 : decode cX12_bestTwo 107 = .ok (.istore_n 3, 1) := by decide +kernel
theorem dX12_bestTwo_108 : decode cX12_bestTwo 108 = .ok (.aload_n 0, 1) := by decide +kernel
theorem dX12_bestTwo_109 : decode cX12_bestTwo 109 = .ok (.getfield 233, 3) := by decide +kernel
theorem dX12_bestTwo_112 : decode cX12_bestTwo 112 = .ok (.istore 4, 2) := by decide +kernel
theorem dX12_bestTwo_114 : decode cX12_bestTwo 114 = .ok (.iinc 6 1, 3) := by decide +kernel
theorem dX12_bestTwo_117 : decode cX12_bestTwo 117 = .ok (.goto (-69), 3) := by decide +kernel
theorem dX12_bestTwo_120 : decode cX12_bestTwo 120 = .ok (.iinc 5 1, 3) := by decide +kernel
theorem dX12_bestTwo_123 : decode cX12_bestTwo 123 = .ok (.goto (-87), 3) := by decide +kernel
theorem dX12_bestTwo_126 : decode cX12_bestTwo 126 = .ok (.aload_n 0, 1) := by decide +kernel
theorem dX12_bestTwo_127 : decode cX12_bestTwo 127 = .ok (.iconst 0, 1) := by decide +kernel
theorem dX12_bestTwo_128 : decode cX12_bestTwo 128 = .ok (.putfield 144, 3) := by decide +kernel
theorem dX12_bestTwo_131 : decode cX12_bestTwo 131 = .ok (.iload_n 2, 1) := by decide +kernel
theorem dX12_bestTwo_132 : decode cX12_bestTwo 132 = .ok (.ifCond .ne 7, 3) := by decide +kernel
theorem dX12_bestTwo_135 : decode cX12_bestTwo 135 = .ok (.iload_n 3, 1) := by decide +kernel
theorem dX12_bestTwo_136 : decode cX12_bestTwo 136 = .ok (.goto 5, 3) := by decide +kernel
theorem dX12_bestTwo_139 : decode cX12_bestTwo 139 = .ok (.iload 4, 2) := by decide +kernel
theorem dX12_bestTwo_141 : decode cX12_bestTwo 141 = .ok (.ireturn, 1) := by decide +kernel
theorem dX12_goneWith_0 : decode cX12_goneWith 0 = .ok (.iload_n 0, 1) := by decide +kernel
theorem dX12_goneWith_1 : decode cX12_goneWith 1 = .ok (.istore_n 3, 1) := by decide +kernel
theorem dX12_goneWith_2 : decode cX12_goneWith 2 = .ok (.iload_n 1, 1) := by decide +kernel
theorem dX12_goneWith_3 : decode cX12_goneWith 3 = .ok (.istore 4, 2) := by decide +kernel
theorem dX12_goneWith_5 : decode cX12_goneWith 5 = .ok (.iconst 0, 1) := by decide +kernel
theorem dX12_goneWith_6 : decode cX12_goneWith 6 = .ok (.istore 5, 2) := by decide +kernel
theorem dX12_goneWith_8 : decode cX12_goneWith 8 = .ok (.iload 5, 2) := by decide +kernel
theorem dX12_goneWith_10 : decode cX12_goneWith 10 = .ok (.iload_n 2, 1) := by decide +kernel
theorem dX12_goneWith_11 : decode cX12_goneWith 11 = .ok (.if_icmp .gt 36, 3) := by decide +kernel
theorem dX12_goneWith_14 : decode cX12_goneWith 14 = .ok (.iload_n 3, 1) := by decide +kernel
theorem dX12_goneWith_15 : decode cX12_goneWith 15 = .ok (.ifCond .gt 6, 3) := by decide +kernel
theorem dX12_goneWith_18 : decode cX12_goneWith 18 = .ok (.iload 5, 2) := by decide +kernel
theorem dX12_goneWith_20 : decode cX12_goneWith 20 = .ok (.ireturn, 1) := by decide +kernel
theorem dX12_goneWith_21 : decode cX12_goneWith 21 = .ok (.iload_n 3, 1) := by decide +kernel
theorem dX12_goneWith_22 : decode cX12_goneWith 22 = .ok (.iload 4, 2) := by decide +kernel
theorem dX12_goneWith_24 : decode cX12_goneWith 24 = .ok (.isub, 1) := by decide +kernel
theorem dX12_goneWith_25 : decode cX12_goneWith 25 = .ok (.istore_n 3, 1) := by decide +kernel
theorem dX12_goneWith_26 : decode cX12_goneWith 26 = .ok (.iload 4, 2) := by decide +kernel
theorem dX12_goneWith_28 : decode cX12_goneWith 28 = .ok (.iload 4, 2) := by decide +kernel
theorem dX12_goneWith_30 : decode cX12_goneWith 30 = .ok (.ifCond .le 7, 3) := by decide +kernel
theorem dX12_goneWith_33 : decode cX12_goneWith 33 = .ok (.iconst 1, 1) := by decide +kernel
theorem dX12_goneWith_34 : decode cX12_goneWith 34 = .ok (.goto 4, 3) := by decide +kernel
theorem dX12_goneWith_37 : decode cX12_goneWith 37 = .ok (.iconst 0, 1) := by decide +kernel
theorem dX12_goneWith_38 : decode cX12_goneWith 38 = .ok (.isub, 1) := by decide +kernel
theorem dX12_goneWith_39 : decode cX12_goneWith 39 = .ok (.istore 4, 2) := by decide +kernel
theorem dX12_goneWith_41 : decode cX12_goneWith 41 = .ok (.iinc 5 1, 3) := by decide +kernel
theorem dX12_goneWith_44 : decode cX12_goneWith 44 = .ok (.goto (-36), 3) := by decide +kernel
theorem dX12_goneWith_47 : decode cX12_goneWith 47 = .ok (.iconst (-1), 1) := by decide +kernel
theorem dX12_goneWith_48 : decode cX12_goneWith 48 = .ok (.ireturn, 1) := by decide +kernel
theorem dX12_goneBy_0 : decode cX12_goneBy 0 = .ok (.aload_n 0, 1) := by decide +kernel
theorem dX12_goneBy_1 : decode cX12_goneBy 1 = .ok (.iload_n 1, 1) := by decide +kernel
theorem dX12_goneBy_2 : decode cX12_goneBy 2 = .ok (.invokevirtual 137, 3) := by decide +kernel
theorem dX12_goneBy_5 : decode cX12_goneBy 5 = .ok (.ifCond .ne 9, 3) := by decide +kernel
theorem dX12_goneBy_8 : decode cX12_goneBy 8 = .ok (.aload_n 0, 1) := by decide +kernel
theorem dX12_goneBy_9 : decode cX12_goneBy 9 = .ok (.iconst 1, 1) := by decide +kernel
theorem dX12_goneBy_10 : decode cX12_goneBy 10 = .ok (.invokevirtual 119, 3) := by decide +kernel
theorem dX12_goneBy_13 : decode cX12_goneBy 13 = .ok (.ireturn, 1) := by decide +kernel
theorem dX12_goneBy_14 : decode cX12_goneBy 14 = .ok (.aload_n 0, 1) := by decide +kernel
theorem dX12_goneBy_15 : decode cX12_goneBy 15 = .ok (.getfield 7, 3) := by decide +kernel
theorem dX12_goneBy_18 : decode cX12_goneBy 18 = .ok (.bipush 10, 2) := by decide +kernel
theorem dX12_goneBy_20 : decode cX12_goneBy 20 = .ok (.iload_n 1, 1) := by decide +kernel
theorem dX12_goneBy_21 : decode cX12_goneBy 21 = .ok (.iadd, 1) := by decide +kernel
theorem dX12_goneBy_22 : decode cX12_goneBy 22 = .ok (.iaload, 1) := by decide +kernel
theorem dX12_goneBy_23 : decode cX12_goneBy 23 = .ok (.aload_n 0, 1) := by decide +kernel
theorem dX12_goneBy_24 : decode cX12_goneBy 24 = .ok (.getfield 7, 3) := by decide +kernel
theorem dX12_goneBy_27 : decode cX12_goneBy 27 = .ok (.bipush 35, 2) := by decide +kernel
theorem dX12_goneBy_29 : decode cX12_goneBy 29 = .ok (.iload_n 1, 1) := by decide +kernel
theorem dX12_goneBy_30 : decode cX12_goneBy 30 = .ok (.iadd, 1) := by decide +kernel
theorem dX12_goneBy_31 : decode cX12_goneBy 31 = .ok (.iaload, 1) := by decide +kernel
theorem dX12_goneBy_32 : decode cX12_goneBy 32 = .ok (.bipush 30, 2) := by decide +kernel
theorem dX12_goneBy_34 : decode cX12_goneBy 34 = .ok (.invokestatic 248, 3) := by decide +kernel
theorem dX12_goneBy_37 : decode cX12_goneBy 37 = .ok (.istore_n 2, 1) := by decide +kernel
theorem dX12_goneBy_38 : decode cX12_goneBy 38 = .ok (.iload_n 2, 1) := by decide +kernel
theorem dX12_goneBy_39 : decode cX12_goneBy 39 = .ok (.ifCond .ge 11, 3) := by decide +kernel
theorem dX12_goneBy_42 : decode cX12_goneBy 42 = .ok (.aload_n 0, 1) := by decide +kernel
theorem dX12_goneBy_43 : decode cX12_goneBy 43 = .ok (.iconst 2, 1) := by decide +kernel
theorem dX12_goneBy_44 : decode cX12_goneBy 44 = .ok (.invokevirtual 119, 3) := by decide +kernel
theorem dX12_goneBy_47 : decode cX12_goneBy 47 = .ok (.goto 4, 3) := by decide +kernel
theorem dX12_goneBy_50 : decode cX12_goneBy 50 = .ok (.iload_n 2, 1) := by decide +kernel
theorem dX12_goneBy_51 : decode cX12_goneBy 51 = .ok (.ireturn, 1) := by decide +kernel
theorem dX12_never_0 : decode cX12_never 0 = .ok (.iconst 0, 1) := by decide +kernel
theorem dX12_never_1 : decode cX12_never 1 = .ok (.istore_n 1, 1) := by decide +kernel
theorem dX12_never_2 : decode cX12_never 2 = .ok (.iconst 0, 1) := by decide +kernel
theorem dX12_never_3 : decode cX12_never 3 = .ok (.istore_n 2, 1) := by decide +kernel
theorem dX12_never_4 : decode cX12_never 4 = .ok (.iload_n 2, 1) := by decide +kernel
theorem dX12_never_5 : decode cX12_never 5 = .ok (.aload_n 0, 1) := by decide +kernel
theorem dX12_never_6 : decode cX12_never 6 = .ok (.invokevirtual 51, 3) := by decide +kernel
theorem dX12_never_9 : decode cX12_never 9 = .ok (.if_icmp .ge 43, 3) := by decide +kernel
theorem dX12_never_12 : decode cX12_never 12 = .ok (.iload_n 1, 1) := by decide +kernel
theorem dX12_never_13 : decode cX12_never 13 = .ok (.aload_n 0, 1) := by decide +kernel
theorem dX12_never_14 : decode cX12_never 14 = .ok (.getfield 7, 3) := by decide +kernel
theorem dX12_never_17 : decode cX12_never 17 = .ok (.bipush 10, 2) := by decide +kernel
theorem dX12_never_19 : decode cX12_never 19 = .ok (.iload_n 2, 1) := by decide +kernel
theorem dX12_never_20 : decode cX12_never 20 = .ok (.iadd, 1) := by decide +kernel
theorem dX12_never_21 : decode cX12_never 21 = .ok (.iaload, 1) := by decide +kernel
theorem dX12_never_22 : decode cX12_never 22 = .ok (.aload_n 0, 1) := by decide +kernel
theorem dX12_never_23 : decode cX12_never 23 = .ok (.getfield 7, 3) := by decide +kernel
theorem dX12_never_26 : decode cX12_never 26 = .ok (.bipush 35, 2) := by decide +kernel
theorem dX12_never_28 : decode cX12_never 28 = .ok (.iload_n 2, 1) := by decide +kernel
theorem dX12_never_29 : decode cX12_never 29 = .ok (.iadd, 1) := by decide +kernel
theorem dX12_never_30 : decode cX12_never 30 = .ok (.iaload, 1) := by decide +kernel
theorem dX12_never_31 : decode cX12_never 31 = .ok (.bipush 30, 2) := by decide +kernel
theorem dX12_never_33 : decode cX12_never 33 = .ok (.invokestatic 248, 3) := by decide +kernel
theorem dX12_never_36 : decode cX12_never 36 = .ok (.ifCond .ge 7, 3) := by decide +kernel
theorem dX12_never_39 : decode cX12_never 39 = .ok (.iconst 1, 1) := by decide +kernel
theorem dX12_never_40 : decode cX12_never 40 = .ok (.goto 4, 3) := by decide +kernel
theorem dX12_never_43 : decode cX12_never 43 = .ok (.iconst 0, 1) := by decide +kernel
theorem dX12_never_44 : decode cX12_never 44 = .ok (.iadd, 1) := by decide +kernel
theorem dX12_never_45 : decode cX12_never 45 = .ok (.istore_n 1, 1) := by decide +kernel
theorem dX12_never_46 : decode cX12_never 46 = .ok (.iinc 2 1, 3) := by decide +kernel
theorem dX12_never_49 : decode cX12_never 49 = .ok (.goto (-45), 3) := by decide +kernel
theorem dX12_never_52 : decode cX12_never 52 = .ok (.iload_n 1, 1) := by decide +kernel
theorem dX12_never_53 : decode cX12_never 53 = .ok (.ireturn, 1) := by decide +kernel
theorem dX12_needs_0 : decode cX12_needs 0 = .ok (.aload_n 0, 1) := by decide +kernel
theorem dX12_needs_1 : decode cX12_needs 1 = .ok (.iload_n 1, 1) := by decide +kernel
theorem dX12_needs_2 : decode cX12_needs 2 = .ok (.invokevirtual 137, 3) := by decide +kernel
theorem dX12_needs_5 : decode cX12_needs 5 = .ok (.ifCond .eq 15, 3) := by decide +kernel
theorem dX12_needs_8 : decode cX12_needs 8 = .ok (.iload_n 2, 1) := by decide +kernel
theorem dX12_needs_9 : decode cX12_needs 9 = .ok (.i2l, 1) := by decide +kernel
theorem dX12_needs_10 : decode cX12_needs 10 = .ok (.lconst 0, 1) := by decide +kernel
theorem dX12_needs_11 : decode cX12_needs 11 = .ok (.ldc2_w 209, 3) := by decide +kernel
theorem dX12_needs_14 : decode cX12_needs 14 = .ok (.invokestatic 55, 3) := by decide +kernel
theorem dX12_needs_17 : decode cX12_needs 17 = .ok (.ifCond .ne 9, 3) := by decide +kernel
theorem dX12_needs_20 : decode cX12_needs 20 = .ok (.aload_n 0, 1) := by decide +kernel
theorem dX12_needs_21 : decode cX12_needs 21 = .ok (.iconst 1, 1) := by decide +kernel
theorem dX12_needs_22 : decode cX12_needs 22 = .ok (.invokevirtual 119, 3) := by decide +kernel
theorem dX12_needs_25 : decode cX12_needs 25 = .ok (.ireturn, 1) := by decide +kernel
theorem dX12_needs_26 : decode cX12_needs 26 = .ok (.iconst 0, 1) := by decide +kernel
theorem dX12_needs_27 : decode cX12_needs 27 = .ok (.istore_n 3, 1) := by decide +kernel
theorem dX12_needs_28 : decode cX12_needs 28 = .ok (.iload_n 3, 1) := by decide +kernel
theorem dX12_needs_29 : decode cX12_needs 29 = .ok (.bipush 9, 2) := by decide +kernel
theorem dX12_needs_31 : decode cX12_needs 31 = .ok (.if_icmp .gt 28, 3) := by decide +kernel
theorem dX12_needs_34 : decode cX12_needs 34 = .ok (.aload_n 0, 1) := by decide +kernel
theorem dX12_needs_35 : decode cX12_needs 35 = .ok (.getfield 7, 3) := by decide +kernel
theorem dX12_needs_38 : decode cX12_needs 38 = .ok (.bipush 10, 2) := by decide +kernel
theorem dX12_needs_40 : decode cX12_needs 40 = .ok (.iload_n 1, 1) := by decide +kernel
theorem dX12_needs_41 : decode cX12_needs 41 = .ok (.iadd, 1) := by decide +kernel
theorem dX12_needs_42 : decode cX12_needs 42 = .ok (.iaload, 1) := by decide +kernel
theorem dX12_needs_43 : decode cX12_needs 43 = .ok (.iload_n 3, 1) := by decide +kernel
theorem dX12_needs_44 : decode cX12_needs 44 = .ok (.iload_n 2, 1) := by decide +kernel
theorem dX12_needs_45 : decode cX12_needs 45 = .ok (.invokestatic 248, 3) := by decide +kernel
theorem dX12_needs_48 : decode cX12_needs 48 = .ok (.ifCond .lt 5, 3) := by decide +kernel
theorem dX12_needs_51 : decode cX12_needs 51 = .ok (.iload_n 3, 1) := by decide +kernel
theorem dX12_needs_52 : decode cX12_needs 52 = .ok (.ireturn, 1) := by decide +kernel
theorem dX12_needs_53 : decode cX12_needs 53 = .ok (.iinc 3 1, 3) := by decide +kernel
theorem dX12_needs_56 : decode cX12_needs 56 = .ok (.goto (-28), 3) := by decide +kernel
theorem dX12_needs_59 : decode cX12_needs 59 = .ok (.aload_n 0, 1) := by decide +kernel
theorem dX12_needs_60 : decode cX12_needs 60 = .ok (.iconst 2, 1) := by decide +kernel
theorem dX12_needs_61 : decode cX12_needs 61 = .ok (.invokevirtual 119, 3) := by decide +kernel
theorem dX12_needs_64 : decode cX12_needs 64 = .ok (.ireturn, 1) := by decide +kernel
theorem dX12_lamp_0 : decode cX12_lamp 0 = .ok (.iload_n 1, 1) := by decide +kernel
theorem dX12_lamp_1 : decode cX12_lamp 1 = .ok (.invokestatic 166, 3) := by decide +kernel
theorem dX12_lamp_4 : decode cX12_lamp 4 = .ok (.ifCond .ne 9, 3) := by decide +kernel
theorem dX12_lamp_7 : decode cX12_lamp 7 = .ok (.aload_n 0, 1) := by decide +kernel
theorem dX12_lamp_8 : decode cX12_lamp 8 = .ok (.iconst 1, 1) := by decide +kernel
theorem dX12_lamp_9 : decode cX12_lamp 9 = .ok (.invokevirtual 119, 3) := by decide +kernel
theorem dX12_lamp_12 : decode cX12_lamp 12 = .ok (.ireturn, 1) := by decide +kernel
theorem dX12_lamp_13 : decode cX12_lamp 13 = .ok (.iconst 0, 1) := by decide +kernel
theorem dX12_lamp_14 : decode cX12_lamp 14 = .ok (.istore_n 2, 1) := by decide +kernel
theorem dX12_lamp_15 : decode cX12_lamp 15 = .ok (.iconst 0, 1) := by decide +kernel
theorem dX12_lamp_16 : decode cX12_lamp 16 = .ok (.istore_n 3, 1) := by decide +kernel
theorem dX12_lamp_17 : decode cX12_lamp 17 = .ok (.iload_n 3, 1) := by decide +kernel
theorem dX12_lamp_18 : decode cX12_lamp 18 = .ok (.aload_n 0, 1) := by decide +kernel
theorem dX12_lamp_19 : decode cX12_lamp 19 = .ok (.invokevirtual 51, 3) := by decide +kernel
theorem dX12_lamp_22 : decode cX12_lamp 22 = .ok (.if_icmp .ge 97, 3) := by decide +kernel
theorem dX12_lamp_25 : decode cX12_lamp 25 = .ok (.aload_n 0, 1) := by decide +kernel
theorem dX12_lamp_26 : decode cX12_lamp 26 = .ok (.getfield 7, 3) := by decide +kernel
theorem dX12_lamp_29 : decode cX12_lamp 29 = .ok (.bipush 10, 2) := by decide +kernel
theorem dX12_lamp_31 : decode cX12_lamp 31 = .ok (.iload_n 3, 1) := by decide +kernel
theorem dX12_lamp_32 : decode cX12_lamp 32 = .ok (.iadd, 1) := by decide +kernel
theorem dX12_lamp_33 : decode cX12_lamp 33 = .ok (.iaload, 1) := by decide +kernel
theorem dX12_lamp_34 : decode cX12_lamp 34 = .ok (.istore 4, 2) := by decide +kernel
theorem dX12_lamp_36 : decode cX12_lamp 36 = .ok (.iload 4, 2) := by decide +kernel
theorem dX12_lamp_38 : decode cX12_lamp 38 = .ok (.ifCond .le 7, 3) := by decide +kernel
theorem dX12_lamp_41 : decode cX12_lamp 41 = .ok (.iconst 1, 1) := by decide +kernel
theorem dX12_lamp_42 : decode cX12_lamp 42 = .ok (.goto 4, 3) := by decide +kernel
theorem dX12_lamp_45 : decode cX12_lamp 45 = .ok (.iconst 0, 1) := by decide +kernel
theorem dX12_lamp_46 : decode cX12_lamp 46 = .ok (.istore 5, 2) := by decide +kernel
theorem dX12_lamp_48 : decode cX12_lamp 48 = .ok (.aload_n 0, 1) := by decide +kernel
theorem dX12_lamp_49 : decode cX12_lamp 49 = .ok (.iload_n 3, 1) := by decide +kernel
theorem dX12_lamp_50 : decode cX12_lamp 50 = .ok (.iload_n 1, 1) := by decide +kernel
theorem dX12_lamp_51 : decode cX12_lamp 51 = .ok (.invokevirtual 156, 3) := by decide +kernel
theorem dX12_lamp_54 : decode cX12_lamp 54 = .ok (.istore 6, 2) := by decide +kernel
theorem dX12_lamp_56 : decode cX12_lamp 56 = .ok (.iload 6, 2) := by decide +kernel
theorem dX12_lamp_58 : decode cX12_lamp 58 = .ok (.ifCond .lt 42, 3) := by decide +kernel
theorem dX12_lamp_61 : decode cX12_lamp 61 = .ok (.iload 5, 2) := by decide +kernel
theorem dX12_lamp_63 : decode cX12_lamp 63 = .ok (.ifCond .eq 22, 3) := by decide +kernel
theorem dX12_lamp_66 : decode cX12_lamp 66 = .ok (.iload 4, 2) := by decide +kernel
theorem dX12_lamp_68 : decode cX12_lamp 68 = .ok (.aload_n 0, 1) := by decide +kernel
theorem dX12_lamp_69 : decode cX12_lamp 69 = .ok (.getfield 7, 3) := by decide +kernel
theorem dX12_lamp_72 : decode cX12_lamp 72 = .ok (.bipush 10, 2) := by decide +kernel
theorem dX12_lamp_74 : decode cX12_lamp 74 = .ok (.iload 6, 2) := by decide +kernel
theorem dX12_lamp_76 : decode cX12_lamp 76 = .ok (.iadd, 1) := by decide +kernel
theorem dX12_lamp_77 : decode cX12_lamp 77 = .ok (.iaload, 1) := by decide +kernel
theorem dX12_lamp_78 : decode cX12_lamp 78 = .ok (.if_icmp .le 7, 3) := by decide +kernel
theorem dX12_lamp_81 : decode cX12_lamp 81 = .ok (.iconst 1, 1) := by decide +kernel
theorem dX12_lamp_82 : decode cX12_lamp 82 = .ok (.goto 4, 3) := by decide +kernel
theorem dX12_lamp_85 : decode cX12_lamp 85 = .ok (.iconst 0, 1) := by decide +kernel
theorem dX12_lamp_86 : decode cX12_lamp 86 = .ok (.istore 5, 2) := by decide +kernel
theorem dX12_lamp_88 : decode cX12_lamp 88 = .ok (.aload_n 0, 1) := by decide +kernel
theorem dX12_lamp_89 : decode cX12_lamp 89 = .ok (.iload 6, 2) := by decide +kernel
theorem dX12_lamp_91 : decode cX12_lamp 91 = .ok (.iload_n 1, 1) := by decide +kernel
theorem dX12_lamp_92 : decode cX12_lamp 92 = .ok (.invokevirtual 156, 3) := by decide +kernel
theorem dX12_lamp_95 : decode cX12_lamp 95 = .ok (.istore 6, 2) := by decide +kernel
theorem dX12_lamp_97 : decode cX12_lamp 97 = .ok (.goto (-41), 3) := by decide +kernel
theorem dX12_lamp_100 : decode cX12_lamp 100 = .ok (.iload_n 2, 1) := by decide +kernel
theorem dX12_lamp_101 : decode cX12_lamp 101 = .ok (.iload 5, 2) := by decide +kernel
theorem dX12_lamp_103 : decode cX12_lamp 103 = .ok (.ifCond .eq 7, 3) := by decide +kernel
theorem dX12_lamp_106 : decode cX12_lamp 106 = .ok (.iconst 1, 1) := by decide +kernel
theorem dX12_lamp_107 : decode cX12_lamp 107 = .ok (.goto 4, 3) := by decide +kernel
theorem dX12_lamp_110 : decode cX12_lamp 110 = .ok (.iconst 0, 1) := by decide +kernel
theorem dX12_lamp_111 : decode cX12_lamp 111 = .ok (.iadd, 1) := by decide +kernel
theorem dX12_lamp_112 : decode cX12_lamp 112 = .ok (.istore_n 2, 1) := by decide +kernel
theorem dX12_lamp_113 : decode cX12_lamp 113 = .ok (.iinc 3 1, 3) := by decide +kernel
theorem dX12_lamp_116 : decode cX12_lamp 116 = .ok (.goto (-99), 3) := by decide +kernel
theorem dX12_lamp_119 : decode cX12_lamp 119 = .ok (.iload_n 2, 1) := by decide +kernel
theorem dX12_lamp_120 : decode cX12_lamp 120 = .ok (.ireturn, 1) := by decide +kernel
theorem dX12_isAs_0 : decode cX12_isAs 0 = .ok (.iconst 1, 1) := by decide +kernel
theorem dX12_isAs_1 : decode cX12_isAs 1 = .ok (.istore_n 2, 1) := by decide +kernel
theorem dX12_isAs_2 : decode cX12_isAs 2 = .ok (.iconst 0, 1) := by decide +kernel
theorem dX12_isAs_3 : decode cX12_isAs 3 = .ok (.istore_n 3, 1) := by decide +kernel
theorem dX12_isAs_4 : decode cX12_isAs 4 = .ok (.iload_n 3, 1) := by decide +kernel
theorem dX12_isAs_5 : decode cX12_isAs 5 = .ok (.aload_n 0, 1) := by decide +kernel
theorem dX12_isAs_6 : decode cX12_isAs 6 = .ok (.invokevirtual 51, 3) := by decide +kernel
theorem dX12_isAs_9 : decode cX12_isAs 9 = .ok (.if_icmp .ge 42, 3) := by decide +kernel
theorem dX12_isAs_12 : decode cX12_isAs 12 = .ok (.iload_n 2, 1) := by decide +kernel
theorem dX12_isAs_13 : decode cX12_isAs 13 = .ok (.ifCond .eq 30, 3) := by decide +kernel
theorem dX12_isAs_16 : decode cX12_isAs 16 = .ok (.aload_n 0, 1) := by decide +kernel
theorem dX12_isAs_17 : decode cX12_isAs 17 = .ok (.getfield 40, 3) := by decide +kernel
theorem dX12_isAs_20 : decode cX12_isAs 20 = .ok (.bipush 40, 2) := by decide +kernel
theorem dX12_isAs_22 : decode cX12_isAs 22 = .ok (.iload_n 1, 1) := by decide +kernel
theorem dX12_isAs_23 : decode cX12_isAs 23 = .ok (.imul, 1) := by decide +kernel
theorem dX12_isAs_24 : decode cX12_isAs 24 = .ok (.iload_n 3, 1) := by decide +kernel
theorem dX12_isAs_25 : decode cX12_isAs 25 = .ok (.iadd, 1) := by decide +kernel
theorem dX12_isAs_26 : decode cX12_isAs 26 = .ok (.iaload, 1) := by decide +kernel
theorem dX12_isAs_27 : decode cX12_isAs 27 = .ok (.aload_n 0, 1) := by decide +kernel
theorem dX12_isAs_28 : decode cX12_isAs 28 = .ok (.getfield 7, 3) := by decide +kernel
theorem dX12_isAs_31 : decode cX12_isAs 31 = .ok (.bipush 10, 2) := by decide +kernel
theorem dX12_isAs_33 : decode cX12_isAs 33 = .ok (.iload_n 3, 1) := by decide +kernel
theorem dX12_isAs_34 : decode cX12_isAs 34 = .ok (.iadd, 1) := by decide +kernel
theorem dX12_isAs_35 : decode cX12_isAs 35 = .ok (.iaload, 1) := by decide +kernel
theorem dX12_isAs_36 : decode cX12_isAs 36 = .ok (.if_icmp .ne 7, 3) := by decide +kernel
theorem dX12_isAs_39 : decode cX12_isAs 39 = .ok (.iconst 1, 1) := by decide +kernel
theorem dX12_isAs_40 : decode cX12_isAs 40 = .ok (.goto 4, 3) := by decide +kernel
theorem dX12_isAs_43 : decode cX12_isAs 43 = .ok (.iconst 0, 1) := by decide +kernel
theorem dX12_isAs_44 : decode cX12_isAs 44 = .ok (.istore_n 2, 1) := by decide +kernel
theorem dX12_isAs_45 : decode cX12_isAs 45 = .ok (.iinc 3 1, 3) := by decide +kernel
theorem dX12_isAs_48 : decode cX12_isAs 48 = .ok (.goto (-44), 3) := by decide +kernel
theorem dX12_isAs_51 : decode cX12_isAs 51 = .ok (.iload_n 2, 1) := by decide +kernel
theorem dX12_isAs_52 : decode cX12_isAs 52 = .ok (.ireturn, 1) := by decide +kernel
theorem dX12_came_0 : decode cX12_came 0 = .ok (.aload_n 0, 1) := by decide +kernel
theorem dX12_came_1 : decode cX12_came 1 = .ok (.iload_n 1, 1) := by decide +kernel
theorem dX12_came_2 : decode cX12_came 2 = .ok (.invokevirtual 180, 3) := by decide +kernel
theorem dX12_came_5 : decode cX12_came 5 = .ok (.ifCond .eq 26, 3) := by decide +kernel
theorem dX12_came_8 : decode cX12_came 8 = .ok (.aload_n 0, 1) := by decide +kernel
theorem dX12_came_9 : decode cX12_came 9 = .ok (.iload_n 2, 1) := by decide +kernel
theorem dX12_came_10 : decode cX12_came 10 = .ok (.invokevirtual 137, 3) := by decide +kernel
theorem dX12_came_13 : decode cX12_came 13 = .ok (.ifCond .eq 18, 3) := by decide +kernel
theorem dX12_came_16 : decode cX12_came 16 = .ok (.iload_n 3, 1) := by decide +kernel
theorem dX12_came_17 : decode cX12_came 17 = .ok (.invokestatic 166, 3) := by decide +kernel
theorem dX12_came_20 : decode cX12_came 20 = .ok (.ifCond .eq 11, 3) := by decide +kernel
theorem dX12_came_23 : decode cX12_came 23 = .ok (.iload 4, 2) := by decide +kernel
theorem dX12_came_25 : decode cX12_came 25 = .ok (.invokestatic 251, 3) := by decide +kernel
theorem dX12_came_28 : decode cX12_came 28 = .ok (.ifCond .ne 9, 3) := by decide +kernel
theorem dX12_came_31 : decode cX12_came 31 = .ok (.aload_n 0, 1) := by decide +kernel
theorem dX12_came_32 : decode cX12_came 32 = .ok (.iconst 1, 1) := by decide +kernel
theorem dX12_came_33 : decode cX12_came 33 = .ok (.invokevirtual 119, 3) := by decide +kernel
theorem dX12_came_36 : decode cX12_came 36 = .ok (.ireturn, 1) := by decide +kernel
theorem dX12_came_37 : decode cX12_came 37 = .ok (.aload_n 0, 1) := by decide +kernel
theorem dX12_came_38 : decode cX12_came 38 = .ok (.getfield 34, 3) := by decide +kernel
theorem dX12_came_41 : decode cX12_came 41 = .ok (.iload 4, 2) := by decide +kernel
theorem dX12_came_43 : decode cX12_came 43 = .ok (.iaload, 1) := by decide +kernel
theorem dX12_came_44 : decode cX12_came 44 = .ok (.ifCond .eq 17, 3) := by decide +kernel
theorem dX12_came_47 : decode cX12_came 47 = .ok (.aload_n 0, 1) := by decide +kernel
theorem dX12_came_48 : decode cX12_came 48 = .ok (.getfield 37, 3) := by decide +kernel
theorem dX12_came_51 : decode cX12_came 51 = .ok (.iload 4, 2) := by decide +kernel
theorem dX12_came_53 : decode cX12_came 53 = .ok (.iaload, 1) := by decide +kernel
theorem dX12_came_54 : decode cX12_came 54 = .ok (.aload_n 0, 1) := by decide +kernel
theorem dX12_came_55 : decode cX12_came 55 = .ok (.invokevirtual 51, 3) := by decide +kernel
theorem dX12_came_58 : decode cX12_came 58 = .ok (.if_icmp .eq 9, 3) := by decide +kernel
theorem dX12_came_61 : decode cX12_came 61 = .ok (.aload_n 0, 1) := by decide +kernel
theorem dX12_came_62 : decode cX12_came 62 = .ok (.iconst 2, 1) := by decide +kernel
theorem dX12_came_63 : decode cX12_came 63 = .ok (.invokevirtual 119, 3) := by decide +kernel
theorem dX12_came_66 : decode cX12_came 66 = .ok (.ireturn, 1) := by decide +kernel
theorem dX12_came_67 : decode cX12_came 67 = .ok (.aload_n 0, 1) := by decide +kernel
theorem dX12_came_68 : decode cX12_came 68 = .ok (.iload_n 1, 1) := by decide +kernel
theorem dX12_came_69 : decode cX12_came 69 = .ok (.invokevirtual 175, 3) := by decide +kernel
theorem dX12_came_72 : decode cX12_came 72 = .ok (.istore 5, 2) := by decide +kernel
theorem dX12_came_74 : decode cX12_came 74 = .ok (.iconst (-1), 1) := by decide +kernel
theorem dX12_came_75 : decode cX12_came 75 = .ok (.istore 6, 2) := by decide +kernel
theorem dX12_came_77 : decode cX12_came 77 = .ok (.iconst 0, 1) := by decide +kernel
theorem dX12_came_78 : decode cX12_came 78 = .ok (.istore 7, 2) := by decide +kernel
theorem dX12_came_80 : decode cX12_came 80 = .ok (.iload 7, 2) := by decide +kernel
theorem dX12_came_82 : decode cX12_came 82 = .ok (.bipush 6, 2) := by decide +kernel
theorem dX12_came_84 : decode cX12_came 84 = .ok (.if_icmp .gt 61, 3) := by decide +kernel
theorem dX12_came_87 : decode cX12_came 87 = .ok (.iload 6, 2) := by decide +kernel
theorem dX12_came_89 : decode cX12_came 89 = .ok (.ifCond .ge 56, 3) := by decide +kernel
theorem dX12_came_92 : decode cX12_came 92 = .ok (.aload_n 0, 1) := by decide +kernel
theorem dX12_came_93 : decode cX12_came 93 = .ok (.getfield 7, 3) := by decide +kernel
theorem dX12_came_96 : decode cX12_came 96 = .ok (.bipush 60, 2) := by decide +kernel
theorem dX12_came_98 : decode cX12_came 98 = .ok (.iconst 2, 1) := by decide +kernel
theorem dX12_came_99 : decode cX12_came 99 = .ok (.iload_n 1, 1) := by decide +kernel
theorem dX12_came_100 : decode cX12_came 100 = .ok (.imul, 1) := by decide +kernel
theorem dX12_came_101 : decode cX12_came 101 = .ok (.iadd, 1) := by decide +kernel
theorem dX12_came_102 : decode cX12_came 102 = .ok (.iload 7, 2) := by decide +kernel
theorem dX12_came_104 : decode cX12_came 104 = .ok (.iastore, 1) := by decide +kernel
theorem dX12_came_105 : decode cX12_came 105 = .ok (.aload_n 0, 1) := by decide +kernel
theorem dX12_came_106 : decode cX12_came 106 = .ok (.iconst 0, 1) := by decide +kernel
theorem dX12_came_107 : decode cX12_came 107 = .ok (.invokevirtual 236, 3) := by decide +kernel
theorem dX12_came_110 : decode cX12_came 110 = .ok (.aload_n 0, 1) := by decide +kernel
theorem dX12_came_111 : decode cX12_came 111 = .ok (.iload_n 1, 1) := by decide +kernel
theorem dX12_came_112 : decode cX12_came 112 = .ok (.iload_n 2, 1) := by decide +kernel
theorem dX12_came_113 : decode cX12_came 113 = .ok (.iload_n 3, 1) := by decide +kernel
theorem dX12_came_114 : decode cX12_came 114 = .ok (.invokevirtual 205, 3) := by decide +kernel
theorem dX12_came_117 : decode cX12_came 117 = .ok (.aload_n 0, 1) := by decide +kernel
theorem dX12_came_118 : decode cX12_came 118 = .ok (.iload 4, 2) := by decide +kernel
theorem dX12_came_120 : decode cX12_came 120 = .ok (.invokevirtual 254, 3) := by decide +kernel
theorem dX12_came_123 : decode cX12_came 123 = .ok (.ifCond .eq 8, 3) := by decide +kernel
theorem dX12_came_126 : decode cX12_came 126 = .ok (.iload 7, 2) := by decide +kernel
theorem dX12_came_128 : decode cX12_came 128 = .ok (.goto 4, 3) := by decide +kernel
theorem dX12_came_131 : decode cX12_came 131 = .ok (.iconst (-1), 1) := by decide +kernel
theorem dX12_came_132 : decode cX12_came 132 = .ok (.istore 6, 2) := by decide +kernel
theorem dX12_came_134 : decode cX12_came 134 = .ok (.aload_n 0, 1) := by decide +kernel
theorem dX12_came_135 : decode cX12_came 135 = .ok (.iconst 0, 1) := by decide +kernel
theorem dX12_came_136 : decode cX12_came 136 = .ok (.invokevirtual 239, 3) := by decide +kernel
theorem dX12_came_139 : decode cX12_came 139 = .ok (.iinc 7 1, 3) := by decide +kernel
theorem dX12_came_142 : decode cX12_came 142 = .ok (.goto (-62), 3) := by decide +kernel
theorem dX12_came_145 : decode cX12_came 145 = .ok (.aload_n 0, 1) := by decide +kernel
theorem dX12_came_146 : decode cX12_came 146 = .ok (.getfield 7, 3) := by decide +kernel
theorem dX12_came_149 : decode cX12_came 149 = .ok (.bipush 60, 2) := by decide +kernel
theorem dX12_came_151 : decode cX12_came 151 = .ok (.iconst 2, 1) := by decide +kernel
theorem dX12_came_152 : decode cX12_came 152 = .ok (.iload_n 1, 1) := by decide +kernel
theorem dX12_came_153 : decode cX12_came 153 = .ok (.imul, 1) := by decide +kernel
theorem dX12_came_154 : decode cX12_came 154 = .ok (.iadd, 1) := by decide +kernel
theorem dX12_came_155 : decode cX12_came 155 = .ok (.iload 5, 2) := by decide +kernel
theorem dX12_came_157 : decode cX12_came 157 = .ok (.iastore, 1) := by decide +kernel
theorem dX12_came_158 : decode cX12_came 158 = .ok (.iload 6, 2) := by decide +kernel
theorem dX12_came_160 : decode cX12_came 160 = .ok (.ifCond .ge 11, 3) := by decide +kernel
theorem dX12_came_163 : decode cX12_came 163 = .ok (.aload_n 0, 1) := by decide +kernel
theorem dX12_came_164 : decode cX12_came 164 = .ok (.iconst 2, 1) := by decide +kernel
theorem dX12_came_165 : decode cX12_came 165 = .ok (.invokevirtual 119, 3) := by decide +kernel
theorem dX12_came_168 : decode cX12_came 168 = .ok (.goto 5, 3) := by decide +kernel
theorem dX12_came_171 : decode cX12_came 171 = .ok (.iload 6, 2) := by decide +kernel
theorem dX12_came_173 : decode cX12_came 173 = .ok (.ireturn, 1) := by decide +kernel
theorem dX12_odds_0 : decode cX12_odds 0 = .ok (.aload_n 0, 1) := by decide +kernel
theorem dX12_odds_1 : decode cX12_odds 1 = .ok (.iload_n 1, 1) := by decide +kernel
theorem dX12_odds_2 : decode cX12_odds 2 = .ok (.invokevirtual 180, 3) := by decide +kernel
theorem dX12_odds_5 : decode cX12_odds 5 = .ok (.ifCond .eq 34, 3) := by decide +kernel
theorem dX12_odds_8 : decode cX12_odds 8 = .ok (.aload_n 0, 1) := by decide +kernel
theorem dX12_odds_9 : decode cX12_odds 9 = .ok (.iload_n 2, 1) := by decide +kernel
theorem dX12_odds_10 : decode cX12_odds 10 = .ok (.invokevirtual 137, 3) := by decide +kernel
theorem dX12_odds_13 : decode cX12_odds 13 = .ok (.ifCond .eq 26, 3) := by decide +kernel
theorem dX12_odds_16 : decode cX12_odds 16 = .ok (.iload_n 3, 1) := by decide +kernel
theorem dX12_odds_17 : decode cX12_odds 17 = .ok (.i2l, 1) := by decide +kernel
theorem dX12_odds_18 : decode cX12_odds 18 = .ok (.lconst 0, 1) := by decide +kernel
theorem dX12_odds_19 : decode cX12_odds 19 = .ok (.ldc2_w 257, 3) := by decide +kernel
theorem dX12_odds_22 : decode cX12_odds 22 = .ok (.invokestatic 55, 3) := by decide +kernel
theorem dX12_odds_25 : decode cX12_odds 25 = .ok (.ifCond .eq 14, 3) := by decide +kernel
theorem dX12_odds_28 : decode cX12_odds 28 = .ok (.iload 4, 2) := by decide +kernel
theorem dX12_odds_30 : decode cX12_odds 30 = .ok (.i2l, 1) := by decide +kernel
theorem dX12_odds_31 : decode cX12_odds 31 = .ok (.lconst 0, 1) := by decide +kernel
theorem dX12_odds_32 : decode cX12_odds 32 = .ok (.lconst 1, 1) := by decide +kernel
theorem dX12_odds_33 : decode cX12_odds 33 = .ok (.invokestatic 55, 3) := by decide +kernel
theorem dX12_odds_36 : decode cX12_odds 36 = .ok (.ifCond .ne 9, 3) := by decide +kernel
theorem dX12_odds_39 : decode cX12_odds 39 = .ok (.aload_n 0, 1) := by decide +kernel
theorem dX12_odds_40 : decode cX12_odds 40 = .ok (.iconst 1, 1) := by decide +kernel
theorem dX12_odds_41 : decode cX12_odds 41 = .ok (.invokevirtual 119, 3) := by decide +kernel
theorem dX12_odds_44 : decode cX12_odds 44 = .ok (.ireturn, 1) := by decide +kernel
theorem dX12_odds_45 : decode cX12_odds 45 = .ok (.iconst 0, 1) := by decide +kernel
theorem dX12_odds_46 : decode cX12_odds 46 = .ok (.istore 5, 2) := by decide +kernel
theorem dX12_odds_48 : decode cX12_odds 48 = .ok (.iconst 0, 1) := by decide +kernel
theorem dX12_odds_49 : decode cX12_odds 49 = .ok (.istore 6, 2) := by decide +kernel
theorem dX12_odds_51 : decode cX12_odds 51 = .ok (.iload 6, 2) := by decide +kernel
theorem dX12_odds_53 : decode cX12_odds 53 = .ok (.iconst 4, 1) := by decide +kernel
theorem dX12_odds_54 : decode cX12_odds 54 = .ok (.if_icmp .ge 45, 3) := by decide +kernel
theorem dX12_odds_57 : decode cX12_odds 57 = .ok (.aload_n 0, 1) := by decide +kernel
theorem dX12_odds_58 : decode cX12_odds 58 = .ok (.iconst 0, 1) := by decide +kernel
theorem dX12_odds_59 : decode cX12_odds 59 = .ok (.invokevirtual 236, 3) := by decide +kernel
theorem dX12_odds_62 : decode cX12_odds 62 = .ok (.aload_n 0, 1) := by decide +kernel
theorem dX12_odds_63 : decode cX12_odds 63 = .ok (.iload_n 1, 1) := by decide +kernel
theorem dX12_odds_64 : decode cX12_odds 64 = .ok (.iload_n 2, 1) := by decide +kernel
theorem dX12_odds_65 : decode cX12_odds 65 = .ok (.iload 6, 2) := by decide +kernel
theorem dX12_odds_67 : decode cX12_odds 67 = .ok (.invokevirtual 205, 3) := by decide +kernel
theorem dX12_odds_70 : decode cX12_odds 70 = .ok (.iload 5, 2) := by decide +kernel
theorem dX12_odds_72 : decode cX12_odds 72 = .ok (.aload_n 0, 1) := by decide +kernel
theorem dX12_odds_73 : decode cX12_odds 73 = .ok (.invokevirtual 153, 3) := by decide +kernel
theorem dX12_odds_76 : decode cX12_odds 76 = .ok (.iload_n 3, 1) := by decide +kernel
theorem dX12_odds_77 : decode cX12_odds 77 = .ok (.if_icmp .gt 7, 3) := by decide +kernel
theorem dX12_odds_80 : decode cX12_odds 80 = .ok (.iconst 1, 1) := by decide +kernel
theorem dX12_odds_81 : decode cX12_odds 81 = .ok (.goto 4, 3) := by decide +kernel
theorem dX12_odds_84 : decode cX12_odds 84 = .ok (.iconst 0, 1) := by decide +kernel
theorem dX12_odds_85 : decode cX12_odds 85 = .ok (.iadd, 1) := by decide +kernel
theorem dX12_odds_86 : decode cX12_odds 86 = .ok (.istore 5, 2) := by decide +kernel
theorem dX12_odds_88 : decode cX12_odds 88 = .ok (.aload_n 0, 1) := by decide +kernel
theorem dX12_odds_89 : decode cX12_odds 89 = .ok (.iconst 0, 1) := by decide +kernel
theorem dX12_odds_90 : decode cX12_odds 90 = .ok (.invokevirtual 239, 3) := by decide +kernel
theorem dX12_odds_93 : decode cX12_odds 93 = .ok (.iinc 6 1, 3) := by decide +kernel
theorem dX12_odds_96 : decode cX12_odds 96 = .ok (.goto (-45), 3) := by decide +kernel
theorem dX12_odds_99 : decode cX12_odds 99 = .ok (.iload 5, 2) := by decide +kernel
theorem dX12_odds_101 : decode cX12_odds 101 = .ok (.iconst 4, 1) := by decide +kernel
theorem dX12_odds_102 : decode cX12_odds 102 = .ok (.irem, 1) := by decide +kernel
theorem dX12_odds_103 : decode cX12_odds 103 = .ok (.ifCond .ne 7, 3) := by decide +kernel
theorem dX12_odds_106 : decode cX12_odds 106 = .ok (.iconst 4, 1) := by decide +kernel
theorem dX12_odds_107 : decode cX12_odds 107 = .ok (.goto 14, 3) := by decide +kernel
theorem dX12_odds_110 : decode cX12_odds 110 = .ok (.iload 5, 2) := by decide +kernel
theorem dX12_odds_112 : decode cX12_odds 112 = .ok (.iconst 2, 1) := by decide +kernel
theorem dX12_odds_113 : decode cX12_odds 113 = .ok (.if_icmp .ne 7, 3) := by decide +kernel
theorem dX12_odds_116 : decode cX12_odds 116 = .ok (.iconst 2, 1) := by decide +kernel
theorem dX12_odds_117 : decode cX12_odds 117 = .ok (.goto 4, 3) := by decide +kernel
theorem dX12_odds_120 : decode cX12_odds 120 = .ok (.iconst 1, 1) := by decide +kernel
theorem dX12_odds_121 : decode cX12_odds 121 = .ok (.istore 6, 2) := by decide +kernel
theorem dX12_odds_123 : decode cX12_odds 123 = .ok (.iload 4, 2) := by decide +kernel
theorem dX12_odds_125 : decode cX12_odds 125 = .ok (.ifCond .ne 8, 3) := by decide +kernel
theorem dX12_odds_128 : decode cX12_odds 128 = .ok (.iload 5, 2) := by decide +kernel
theorem dX12_odds_130 : decode cX12_odds 130 = .ok (.goto 4, 3) := by decide +kernel
theorem dX12_odds_133 : decode cX12_odds 133 = .ok (.iconst 4, 1) := by decide +kernel
theorem dX12_odds_134 : decode cX12_odds 134 = .ok (.iload 6, 2) := by decide +kernel
theorem dX12_odds_136 : decode cX12_odds 136 = .ok (.idiv, 1) := by decide +kernel
theorem dX12_odds_137 : decode cX12_odds 137 = .ok (.ireturn, 1) := by decide +kernel
theorem dX12_seed_0 : decode cX12_seed 0 = .ok (.aload_n 0, 1) := by decide +kernel
theorem dX12_seed_1 : decode cX12_seed 1 = .ok (.getfield 7, 3) := by decide +kernel
theorem dX12_seed_4 : decode cX12_seed 4 = .ok (.bipush 6, 2) := by decide +kernel
theorem dX12_seed_6 : decode cX12_seed 6 = .ok (.iaload, 1) := by decide +kernel
theorem dX12_seed_7 : decode cX12_seed 7 = .ok (.istore_n 2, 1) := by decide +kernel
theorem dX12_seed_8 : decode cX12_seed 8 = .ok (.aload_n 0, 1) := by decide +kernel
theorem dX12_seed_9 : decode cX12_seed 9 = .ok (.getfield 7, 3) := by decide +kernel
theorem dX12_seed_12 : decode cX12_seed 12 = .ok (.bipush 6, 2) := by decide +kernel
theorem dX12_seed_14 : decode cX12_seed 14 = .ok (.iload_n 1, 1) := by decide +kernel
theorem dX12_seed_15 : decode cX12_seed 15 = .ok (.iastore, 1) := by decide +kernel
theorem dX12_seed_16 : decode cX12_seed 16 = .ok (.iload_n 2, 1) := by decide +kernel
theorem dX12_seed_17 : decode cX12_seed 17 = .ok (.ireturn, 1) := by decide +kernel
theorem dX12_ran_0 : decode cX12_ran 0 = .ok (.aload_n 0, 1) := by decide +kernel
theorem dX12_ran_1 : decode cX12_ran 1 = .ok (.getfield 259, 3) := by decide +kernel
theorem dX12_ran_4 : decode cX12_ran 4 = .ok (.bipush 40, 2) := by decide +kernel
theorem dX12_ran_6 : decode cX12_ran 6 = .ok (.if_icmp .ge 23, 3) := by decide +kernel
theorem dX12_ran_9 : decode cX12_ran 9 = .ok (.aload_n 0, 1) := by decide +kernel
theorem dX12_ran_10 : decode cX12_ran 10 = .ok (.getfield 31, 3) := by decide +kernel
theorem dX12_ran_13 : decode cX12_ran 13 = .ok (.aload_n 0, 1) := by decide +kernel
theorem dX12_ran_14 : decode cX12_ran 14 = .ok (.getfield 259, 3) := by decide +kernel
theorem dX12_ran_17 : decode cX12_ran 17 = .ok (.iload_n 1, 1) := by decide +kernel
theorem dX12_ran_18 : decode cX12_ran 18 = .ok (.iastore, 1) := by decide +kernel
theorem dX12_ran_19 : decode cX12_ran 19 = .ok (.aload_n 0, 1) := by decide +kernel
theorem dX12_ran_20 : decode cX12_ran 20 = .ok (.dup, 1) := by decide +kernel
theorem dX12_ran_21 : decode cX12_ran 21 = .ok (.getfield 259, 3) := by decide +kernel
theorem dX12_ran_24 : decode cX12_ran 24 = .ok (.iconst 1, 1) := by decide +kernel
theorem dX12_ran_25 : decode cX12_ran 25 = .ok (.iadd, 1) := by decide +kernel
theorem dX12_ran_26 : decode cX12_ran 26 = .ok (.putfield 259, 3) := by decide +kernel
theorem dX12_ran_29 : decode cX12_ran 29 = .ok (.return_, 1) := by decide +kernel
theorem dX12_own_0 : decode cX12_own 0 = .ok (.aload_n 0, 1) := by decide +kernel
theorem dX12_own_1 : decode cX12_own 1 = .ok (.aload_n 0, 1) := by decide +kernel
theorem dX12_own_2 : decode cX12_own 2 = .ok (.getfield 262, 3) := by decide +kernel
theorem dX12_own_5 : decode cX12_own 5 = .ok (.invokevirtual 175, 3) := by decide +kernel
theorem dX12_own_8 : decode cX12_own 8 = .ok (.ireturn, 1) := by decide +kernel
theorem dX12_movesBy_0 : decode cX12_movesBy 0 = .ok (.iload_n 1, 1) := by decide +kernel
theorem dX12_movesBy_1 : decode cX12_movesBy 1 = .ok (.lookupswitch 58 #[(0, 27), (1, 40)], 27) := by decide +kernel
theorem dX12_movesBy_28 : decode cX12_movesBy 28 = .ok (.aload_n 0, 1) := by decide +kernel
theorem dX12_movesBy_29 : decode cX12_movesBy 29 = .ok (.bipush 10, 2) := by decide +kernel
theorem dX12_movesBy_31 : decode cX12_movesBy 31 = .ok (.invokevirtual 265, 3) := by decide +kernel
theorem dX12_movesBy_34 : decode cX12_movesBy 34 = .ok (.iload_n 2, 1) := by decide +kernel
theorem dX12_movesBy_35 : decode cX12_movesBy 35 = .ok (.aload_n 0, 1) := by decide +kernel
theorem dX12_movesBy_36 : decode cX12_movesBy 36 = .ok (.getfield 262, 3) := by decide +kernel
theorem dX12_movesBy_39 : decode cX12_movesBy 39 = .ok (.iadd, 1) := by decide +kernel
theorem dX12_movesBy_40 : decode cX12_movesBy 40 = .ok (.ireturn, 1) := by decide +kernel
theorem dX12_movesBy_41 : decode cX12_movesBy 41 = .ok (.aload_n 0, 1) := by decide +kernel
theorem dX12_movesBy_42 : decode cX12_movesBy 42 = .ok (.bipush 20, 2) := by decide +kernel
theorem dX12_movesBy_44 : decode cX12_movesBy 44 = .ok (.invokevirtual 265, 3) := by decide +kernel
theorem dX12_movesBy_47 : decode cX12_movesBy 47 = .ok (.aload_n 0, 1) := by decide +kernel
theorem dX12_movesBy_48 : decode cX12_movesBy 48 = .ok (.iconst 1, 1) := by decide +kernel
theorem dX12_movesBy_49 : decode cX12_movesBy 49 = .ok (.invokestatic 197, 3) := by decide +kernel
theorem dX12_movesBy_52 : decode cX12_movesBy 52 = .ok (.iload_n 2, 1) := by decide +kernel
theorem dX12_movesBy_53 : decode cX12_movesBy 53 = .ok (.invokevirtual 268, 3) := by decide +kernel
theorem dX12_movesBy_56 : decode cX12_movesBy 56 = .ok (.iconst 3, 1) := by decide +kernel
theorem dX12_movesBy_57 : decode cX12_movesBy 57 = .ok (.imul, 1) := by decide +kernel
theorem dX12_movesBy_58 : decode cX12_movesBy 58 = .ok (.ireturn, 1) := by decide +kernel
theorem dX12_movesBy_59 : decode cX12_movesBy 59 = .ok (.aload_n 0, 1) := by decide +kernel
theorem dX12_movesBy_60 : decode cX12_movesBy 60 = .ok (.iload_n 1, 1) := by decide +kernel
theorem dX12_movesBy_61 : decode cX12_movesBy 61 = .ok (.invokestatic 197, 3) := by decide +kernel
theorem dX12_movesBy_64 : decode cX12_movesBy 64 = .ok (.iload_n 2, 1) := by decide +kernel
theorem dX12_movesBy_65 : decode cX12_movesBy 65 = .ok (.invokevirtual 268, 3) := by decide +kernel
theorem dX12_movesBy_68 : decode cX12_movesBy 68 = .ok (.ireturn, 1) := by decide +kernel
theorem dX12_letsBy_0 : decode cX12_letsBy 0 = .ok (.iload_n 1, 1) := by decide +kernel
theorem dX12_letsBy_1 : decode cX12_letsBy 1 = .ok (.lookupswitch 99 #[(0, 35), (2, 53), (5, 81)], 35) := by decide +kernel
theorem dX12_letsBy_36 : decode cX12_letsBy 36 = .ok (.aload_n 0, 1) := by decide +kernel
theorem dX12_letsBy_37 : decode cX12_letsBy 37 = .ok (.bipush 11, 2) := by decide +kernel
theorem dX12_letsBy_39 : decode cX12_letsBy 39 = .ok (.invokevirtual 265, 3) := by decide +kernel
theorem dX12_letsBy_42 : decode cX12_letsBy 42 = .ok (.aload_n 0, 1) := by decide +kernel
theorem dX12_letsBy_43 : decode cX12_letsBy 43 = .ok (.aload_n 0, 1) := by decide +kernel
theorem dX12_letsBy_44 : decode cX12_letsBy 44 = .ok (.invokevirtual 271, 3) := by decide +kernel
theorem dX12_letsBy_47 : decode cX12_letsBy 47 = .ok (.iload_n 2, 1) := by decide +kernel
theorem dX12_letsBy_48 : decode cX12_letsBy 48 = .ok (.invokevirtual 268, 3) := by decide +kernel
theorem dX12_letsBy_51 : decode cX12_letsBy 51 = .ok (.iconst 2, 1) := by decide +kernel
theorem dX12_letsBy_52 : decode cX12_letsBy 52 = .ok (.imul, 1) := by decide +kernel
theorem dX12_letsBy_53 : decode cX12_letsBy 53 = .ok (.ireturn, 1) := by decide +kernel
theorem dX12_letsBy_54 : decode cX12_letsBy 54 = .ok (.aload_n 0, 1) := by decide +kernel
theorem dX12_letsBy_55 : decode cX12_letsBy 55 = .ok (.bipush 30, 2) := by decide +kernel
theorem dX12_letsBy_57 : decode cX12_letsBy 57 = .ok (.invokevirtual 265, 3) := by decide +kernel
theorem dX12_letsBy_60 : decode cX12_letsBy 60 = .ok (.aload_n 0, 1) := by decide +kernel
theorem dX12_letsBy_61 : decode cX12_letsBy 61 = .ok (.iconst 2, 1) := by decide +kernel
theorem dX12_letsBy_62 : decode cX12_letsBy 62 = .ok (.invokestatic 197, 3) := by decide +kernel
theorem dX12_letsBy_65 : decode cX12_letsBy 65 = .ok (.iload_n 2, 1) := by decide +kernel
theorem dX12_letsBy_66 : decode cX12_letsBy 66 = .ok (.invokevirtual 274, 3) := by decide +kernel
theorem dX12_letsBy_69 : decode cX12_letsBy 69 = .ok (.istore_n 3, 1) := by decide +kernel
theorem dX12_letsBy_70 : decode cX12_letsBy 70 = .ok (.iload_n 3, 1) := by decide +kernel
theorem dX12_letsBy_71 : decode cX12_letsBy 71 = .ok (.aload_n 0, 1) := by decide +kernel
theorem dX12_letsBy_72 : decode cX12_letsBy 72 = .ok (.aload_n 0, 1) := by decide +kernel
theorem dX12_letsBy_73 : decode cX12_letsBy 73 = .ok (.invokevirtual 271, 3) := by decide +kernel
theorem dX12_letsBy_76 : decode cX12_letsBy 76 = .ok (.iconst 1, 1) := by decide +kernel
theorem dX12_letsBy_77 : decode cX12_letsBy 77 = .ok (.invokevirtual 277, 3) := by decide +kernel
theorem dX12_letsBy_80 : decode cX12_letsBy 80 = .ok (.isub, 1) := by decide +kernel
theorem dX12_letsBy_81 : decode cX12_letsBy 81 = .ok (.ireturn, 1) := by decide +kernel
theorem dX12_letsBy_82 : decode cX12_letsBy 82 = .ok (.aload_n 0, 1) := by decide +kernel
theorem dX12_letsBy_83 : decode cX12_letsBy 83 = .ok (.bipush 60, 2) := by decide +kernel
theorem dX12_letsBy_85 : decode cX12_letsBy 85 = .ok (.invokevirtual 265, 3) := by decide +kernel
theorem dX12_letsBy_88 : decode cX12_letsBy 88 = .ok (.aload_n 0, 1) := by decide +kernel
theorem dX12_letsBy_89 : decode cX12_letsBy 89 = .ok (.iconst 5, 1) := by decide +kernel
theorem dX12_letsBy_90 : decode cX12_letsBy 90 = .ok (.invokestatic 197, 3) := by decide +kernel
theorem dX12_letsBy_93 : decode cX12_letsBy 93 = .ok (.iload_n 2, 1) := by decide +kernel
theorem dX12_letsBy_94 : decode cX12_letsBy 94 = .ok (.iconst 1, 1) := by decide +kernel
theorem dX12_letsBy_95 : decode cX12_letsBy 95 = .ok (.iadd, 1) := by decide +kernel
theorem dX12_letsBy_96 : decode cX12_letsBy 96 = .ok (.invokevirtual 274, 3) := by decide +kernel
theorem dX12_letsBy_99 : decode cX12_letsBy 99 = .ok (.ireturn, 1) := by decide +kernel
theorem dX12_letsBy_100 : decode cX12_letsBy 100 = .ok (.aload_n 0, 1) := by decide +kernel
theorem dX12_letsBy_101 : decode cX12_letsBy 101 = .ok (.iload_n 1, 1) := by decide +kernel
theorem dX12_letsBy_102 : decode cX12_letsBy 102 = .ok (.invokestatic 197, 3) := by decide +kernel
theorem dX12_letsBy_105 : decode cX12_letsBy 105 = .ok (.iload_n 2, 1) := by decide +kernel
theorem dX12_letsBy_106 : decode cX12_letsBy 106 = .ok (.invokevirtual 274, 3) := by decide +kernel
theorem dX12_letsBy_109 : decode cX12_letsBy 109 = .ok (.ireturn, 1) := by decide +kernel
theorem dX12_tearsBy_0 : decode cX12_tearsBy 0 = .ok (.iload_n 1, 1) := by decide +kernel
theorem dX12_tearsBy_1 : decode cX12_tearsBy 1 = .ok (.lookupswitch 91 #[(0, 35), (3, 52), (6, 69)], 35) := by decide +kernel
theorem dX12_tearsBy_36 : decode cX12_tearsBy 36 = .ok (.aload_n 0, 1) := by decide +kernel
theorem dX12_tearsBy_37 : decode cX12_tearsBy 37 = .ok (.bipush 12, 2) := by decide +kernel
theorem dX12_tearsBy_39 : decode cX12_tearsBy 39 = .ok (.invokevirtual 265, 3) := by decide +kernel
theorem dX12_tearsBy_42 : decode cX12_tearsBy 42 = .ok (.iload_n 2, 1) := by decide +kernel
theorem dX12_tearsBy_43 : decode cX12_tearsBy 43 = .ok (.aload_n 0, 1) := by decide +kernel
theorem dX12_tearsBy_44 : decode cX12_tearsBy 44 = .ok (.aload_n 0, 1) := by decide +kernel
theorem dX12_tearsBy_45 : decode cX12_tearsBy 45 = .ok (.getfield 262, 3) := by decide +kernel
theorem dX12_tearsBy_48 : decode cX12_tearsBy 48 = .ok (.invokevirtual 147, 3) := by decide +kernel
theorem dX12_tearsBy_51 : decode cX12_tearsBy 51 = .ok (.isub, 1) := by decide +kernel
theorem dX12_tearsBy_52 : decode cX12_tearsBy 52 = .ok (.ireturn, 1) := by decide +kernel
theorem dX12_tearsBy_53 : decode cX12_tearsBy 53 = .ok (.aload_n 0, 1) := by decide +kernel
theorem dX12_tearsBy_54 : decode cX12_tearsBy 54 = .ok (.bipush 40, 2) := by decide +kernel
theorem dX12_tearsBy_56 : decode cX12_tearsBy 56 = .ok (.invokevirtual 265, 3) := by decide +kernel
theorem dX12_tearsBy_59 : decode cX12_tearsBy 59 = .ok (.aload_n 0, 1) := by decide +kernel
theorem dX12_tearsBy_60 : decode cX12_tearsBy 60 = .ok (.iconst 3, 1) := by decide +kernel
theorem dX12_tearsBy_61 : decode cX12_tearsBy 61 = .ok (.invokestatic 197, 3) := by decide +kernel
theorem dX12_tearsBy_64 : decode cX12_tearsBy 64 = .ok (.iload_n 2, 1) := by decide +kernel
theorem dX12_tearsBy_65 : decode cX12_tearsBy 65 = .ok (.invokevirtual 277, 3) := by decide +kernel
theorem dX12_tearsBy_68 : decode cX12_tearsBy 68 = .ok (.ineg, 1) := by decide +kernel
theorem dX12_tearsBy_69 : decode cX12_tearsBy 69 = .ok (.ireturn, 1) := by decide +kernel
theorem dX12_tearsBy_70 : decode cX12_tearsBy 70 = .ok (.aload_n 0, 1) := by decide +kernel
theorem dX12_tearsBy_71 : decode cX12_tearsBy 71 = .ok (.bipush 70, 2) := by decide +kernel
theorem dX12_tearsBy_73 : decode cX12_tearsBy 73 = .ok (.invokevirtual 265, 3) := by decide +kernel
theorem dX12_tearsBy_76 : decode cX12_tearsBy 76 = .ok (.aload_n 0, 1) := by decide +kernel
theorem dX12_tearsBy_77 : decode cX12_tearsBy 77 = .ok (.bipush 6, 2) := by decide +kernel
theorem dX12_tearsBy_79 : decode cX12_tearsBy 79 = .ok (.invokestatic 197, 3) := by decide +kernel
theorem dX12_tearsBy_82 : decode cX12_tearsBy 82 = .ok (.iload_n 2, 1) := by decide +kernel
theorem dX12_tearsBy_83 : decode cX12_tearsBy 83 = .ok (.invokevirtual 277, 3) := by decide +kernel
theorem dX12_tearsBy_86 : decode cX12_tearsBy 86 = .ok (.aload_n 0, 1) := by decide +kernel
theorem dX12_tearsBy_87 : decode cX12_tearsBy 87 = .ok (.getfield 262, 3) := by decide +kernel
theorem dX12_tearsBy_90 : decode cX12_tearsBy 90 = .ok (.ixor, 1) := by decide +kernel
theorem dX12_tearsBy_91 : decode cX12_tearsBy 91 = .ok (.ireturn, 1) := by decide +kernel
theorem dX12_tearsBy_92 : decode cX12_tearsBy 92 = .ok (.aload_n 0, 1) := by decide +kernel
theorem dX12_tearsBy_93 : decode cX12_tearsBy 93 = .ok (.iload_n 1, 1) := by decide +kernel
theorem dX12_tearsBy_94 : decode cX12_tearsBy 94 = .ok (.invokestatic 197, 3) := by decide +kernel
theorem dX12_tearsBy_97 : decode cX12_tearsBy 97 = .ok (.iload_n 2, 1) := by decide +kernel
theorem dX12_tearsBy_98 : decode cX12_tearsBy 98 = .ok (.invokevirtual 277, 3) := by decide +kernel
theorem dX12_tearsBy_101 : decode cX12_tearsBy 101 = .ok (.ireturn, 1) := by decide +kernel
theorem dX12_tellsBy_0 : decode cX12_tellsBy 0 = .ok (.iload_n 1, 1) := by decide +kernel
theorem dX12_tellsBy_1 : decode cX12_tellsBy 1 = .ok (.lookupswitch 120 #[(0, 35), (4, 63), (6, 91)], 35) := by decide +kernel
theorem dX12_tellsBy_36 : decode cX12_tellsBy 36 = .ok (.aload_n 0, 1) := by decide +kernel
theorem dX12_tellsBy_37 : decode cX12_tellsBy 37 = .ok (.bipush 13, 2) := by decide +kernel
theorem dX12_tellsBy_39 : decode cX12_tellsBy 39 = .ok (.invokevirtual 265, 3) := by decide +kernel
theorem dX12_tellsBy_42 : decode cX12_tellsBy 42 = .ok (.aload_n 0, 1) := by decide +kernel
theorem dX12_tellsBy_43 : decode cX12_tellsBy 43 = .ok (.aload_n 0, 1) := by decide +kernel
theorem dX12_tellsBy_44 : decode cX12_tellsBy 44 = .ok (.invokevirtual 271, 3) := by decide +kernel
theorem dX12_tellsBy_47 : decode cX12_tellsBy 47 = .ok (.iload_n 2, 1) := by decide +kernel
theorem dX12_tellsBy_48 : decode cX12_tellsBy 48 = .ok (.invokevirtual 274, 3) := by decide +kernel
theorem dX12_tellsBy_51 : decode cX12_tellsBy 51 = .ok (.istore_n 3, 1) := by decide +kernel
theorem dX12_tellsBy_52 : decode cX12_tellsBy 52 = .ok (.iload_n 3, 1) := by decide +kernel
theorem dX12_tellsBy_53 : decode cX12_tellsBy 53 = .ok (.aload_n 0, 1) := by decide +kernel
theorem dX12_tellsBy_54 : decode cX12_tellsBy 54 = .ok (.aload_n 0, 1) := by decide +kernel
theorem dX12_tellsBy_55 : decode cX12_tellsBy 55 = .ok (.invokevirtual 271, 3) := by decide +kernel
theorem dX12_tellsBy_58 : decode cX12_tellsBy 58 = .ok (.iload_n 2, 1) := by decide +kernel
theorem dX12_tellsBy_59 : decode cX12_tellsBy 59 = .ok (.invokevirtual 277, 3) := by decide +kernel
theorem dX12_tellsBy_62 : decode cX12_tellsBy 62 = .ok (.ixor, 1) := by decide +kernel
theorem dX12_tellsBy_63 : decode cX12_tellsBy 63 = .ok (.ireturn, 1) := by decide +kernel
theorem dX12_tellsBy_64 : decode cX12_tellsBy 64 = .ok (.aload_n 0, 1) := by decide +kernel
theorem dX12_tellsBy_65 : decode cX12_tellsBy 65 = .ok (.bipush 50, 2) := by decide +kernel
theorem dX12_tellsBy_67 : decode cX12_tellsBy 67 = .ok (.invokevirtual 265, 3) := by decide +kernel
theorem dX12_tellsBy_70 : decode cX12_tellsBy 70 = .ok (.aload_n 0, 1) := by decide +kernel
theorem dX12_tellsBy_71 : decode cX12_tellsBy 71 = .ok (.iconst 4, 1) := by decide +kernel
theorem dX12_tellsBy_72 : decode cX12_tellsBy 72 = .ok (.invokestatic 197, 3) := by decide +kernel
theorem dX12_tellsBy_75 : decode cX12_tellsBy 75 = .ok (.iload_n 2, 1) := by decide +kernel
theorem dX12_tellsBy_76 : decode cX12_tellsBy 76 = .ok (.invokevirtual 280, 3) := by decide +kernel
theorem dX12_tellsBy_79 : decode cX12_tellsBy 79 = .ok (.istore_n 3, 1) := by decide +kernel
theorem dX12_tellsBy_80 : decode cX12_tellsBy 80 = .ok (.iload_n 3, 1) := by decide +kernel
theorem dX12_tellsBy_81 : decode cX12_tellsBy 81 = .ok (.aload_n 0, 1) := by decide +kernel
theorem dX12_tellsBy_82 : decode cX12_tellsBy 82 = .ok (.aload_n 0, 1) := by decide +kernel
theorem dX12_tellsBy_83 : decode cX12_tellsBy 83 = .ok (.invokevirtual 271, 3) := by decide +kernel
theorem dX12_tellsBy_86 : decode cX12_tellsBy 86 = .ok (.iconst 2, 1) := by decide +kernel
theorem dX12_tellsBy_87 : decode cX12_tellsBy 87 = .ok (.invokevirtual 268, 3) := by decide +kernel
theorem dX12_tellsBy_90 : decode cX12_tellsBy 90 = .ok (.isub, 1) := by decide +kernel
theorem dX12_tellsBy_91 : decode cX12_tellsBy 91 = .ok (.ireturn, 1) := by decide +kernel
theorem dX12_tellsBy_92 : decode cX12_tellsBy 92 = .ok (.aload_n 0, 1) := by decide +kernel
theorem dX12_tellsBy_93 : decode cX12_tellsBy 93 = .ok (.bipush 71, 2) := by decide +kernel
theorem dX12_tellsBy_95 : decode cX12_tellsBy 95 = .ok (.invokevirtual 265, 3) := by decide +kernel
theorem dX12_tellsBy_98 : decode cX12_tellsBy 98 = .ok (.aload_n 0, 1) := by decide +kernel
theorem dX12_tellsBy_99 : decode cX12_tellsBy 99 = .ok (.aload_n 0, 1) := by decide +kernel
theorem dX12_tellsBy_100 : decode cX12_tellsBy 100 = .ok (.invokevirtual 271, 3) := by decide +kernel
theorem dX12_tellsBy_103 : decode cX12_tellsBy 103 = .ok (.iload_n 2, 1) := by decide +kernel
theorem dX12_tellsBy_104 : decode cX12_tellsBy 104 = .ok (.invokevirtual 274, 3) := by decide +kernel
theorem dX12_tellsBy_107 : decode cX12_tellsBy 107 = .ok (.istore_n 3, 1) := by decide +kernel
theorem dX12_tellsBy_108 : decode cX12_tellsBy 108 = .ok (.iload_n 3, 1) := by decide +kernel
theorem dX12_tellsBy_109 : decode cX12_tellsBy 109 = .ok (.aload_n 0, 1) := by decide +kernel
theorem dX12_tellsBy_110 : decode cX12_tellsBy 110 = .ok (.bipush 6, 2) := by decide +kernel
theorem dX12_tellsBy_112 : decode cX12_tellsBy 112 = .ok (.invokestatic 197, 3) := by decide +kernel
theorem dX12_tellsBy_115 : decode cX12_tellsBy 115 = .ok (.iload_n 2, 1) := by decide +kernel
theorem dX12_tellsBy_116 : decode cX12_tellsBy 116 = .ok (.invokevirtual 280, 3) := by decide +kernel
theorem dX12_tellsBy_119 : decode cX12_tellsBy 119 = .ok (.isub, 1) := by decide +kernel
theorem dX12_tellsBy_120 : decode cX12_tellsBy 120 = .ok (.ireturn, 1) := by decide +kernel
theorem dX12_tellsBy_121 : decode cX12_tellsBy 121 = .ok (.aload_n 0, 1) := by decide +kernel
theorem dX12_tellsBy_122 : decode cX12_tellsBy 122 = .ok (.iload_n 1, 1) := by decide +kernel
theorem dX12_tellsBy_123 : decode cX12_tellsBy 123 = .ok (.invokestatic 197, 3) := by decide +kernel
theorem dX12_tellsBy_126 : decode cX12_tellsBy 126 = .ok (.iload_n 2, 1) := by decide +kernel
theorem dX12_tellsBy_127 : decode cX12_tellsBy 127 = .ok (.invokevirtual 280, 3) := by decide +kernel
theorem dX12_tellsBy_130 : decode cX12_tellsBy 130 = .ok (.ireturn, 1) := by decide +kernel
theorem dX12_voice_0 : decode cX12_voice 0 = .ok (.aload_n 0, 1) := by decide +kernel
theorem dX12_voice_1 : decode cX12_voice 1 = .ok (.iload_n 1, 1) := by decide +kernel
theorem dX12_voice_2 : decode cX12_voice 2 = .ok (.invokevirtual 180, 3) := by decide +kernel
theorem dX12_voice_5 : decode cX12_voice 5 = .ok (.ifCond .eq 15, 3) := by decide +kernel
theorem dX12_voice_8 : decode cX12_voice 8 = .ok (.iload_n 2, 1) := by decide +kernel
theorem dX12_voice_9 : decode cX12_voice 9 = .ok (.i2l, 1) := by decide +kernel
theorem dX12_voice_10 : decode cX12_voice 10 = .ok (.lconst 0, 1) := by decide +kernel
theorem dX12_voice_11 : decode cX12_voice 11 = .ok (.ldc2_w 59, 3) := by decide +kernel
theorem dX12_voice_14 : decode cX12_voice 14 = .ok (.invokestatic 55, 3) := by decide +kernel
theorem dX12_voice_17 : decode cX12_voice 17 = .ok (.ifCond .ne 9, 3) := by decide +kernel
theorem dX12_voice_20 : decode cX12_voice 20 = .ok (.aload_n 0, 1) := by decide +kernel
theorem dX12_voice_21 : decode cX12_voice 21 = .ok (.iconst 1, 1) := by decide +kernel
theorem dX12_voice_22 : decode cX12_voice 22 = .ok (.invokevirtual 119, 3) := by decide +kernel
theorem dX12_voice_25 : decode cX12_voice 25 = .ok (.ireturn, 1) := by decide +kernel
theorem dX12_voice_26 : decode cX12_voice 26 = .ok (.aload_n 0, 1) := by decide +kernel
theorem dX12_voice_27 : decode cX12_voice 27 = .ok (.iconst 0, 1) := by decide +kernel
theorem dX12_voice_28 : decode cX12_voice 28 = .ok (.putfield 259, 3) := by decide +kernel
theorem dX12_voice_31 : decode cX12_voice 31 = .ok (.aload_n 0, 1) := by decide +kernel
theorem dX12_voice_32 : decode cX12_voice 32 = .ok (.iload_n 1, 1) := by decide +kernel
theorem dX12_voice_33 : decode cX12_voice 33 = .ok (.putfield 262, 3) := by decide +kernel
theorem dX12_voice_36 : decode cX12_voice 36 = .ok (.aload_n 0, 1) := by decide +kernel
theorem dX12_voice_37 : decode cX12_voice 37 = .ok (.invokevirtual 271, 3) := by decide +kernel
theorem dX12_voice_40 : decode cX12_voice 40 = .ok (.istore 4, 2) := by decide +kernel
theorem dX12_voice_42 : decode cX12_voice 42 = .ok (.iload_n 2, 1) := by decide +kernel
theorem dX12_voice_43 : decode cX12_voice 43 = .ok (.ifCond .ne 13, 3) := by decide +kernel
theorem dX12_voice_46 : decode cX12_voice 46 = .ok (.aload_n 0, 1) := by decide +kernel
theorem dX12_voice_47 : decode cX12_voice 47 = .ok (.iload 4, 2) := by decide +kernel
theorem dX12_voice_49 : decode cX12_voice 49 = .ok (.iload_n 3, 1) := by decide +kernel
theorem dX12_voice_50 : decode cX12_voice 50 = .ok (.invokevirtual 268, 3) := by decide +kernel
theorem dX12_voice_53 : decode cX12_voice 53 = .ok (.goto 40, 3) := by decide +kernel
theorem dX12_voice_56 : decode cX12_voice 56 = .ok (.iload_n 2, 1) := by decide +kernel
theorem dX12_voice_57 : decode cX12_voice 57 = .ok (.iconst 1, 1) := by decide +kernel
theorem dX12_voice_58 : decode cX12_voice 58 = .ok (.if_icmp .ne 13, 3) := by decide +kernel
theorem dX12_voice_61 : decode cX12_voice 61 = .ok (.aload_n 0, 1) := by decide +kernel
theorem dX12_voice_62 : decode cX12_voice 62 = .ok (.iload 4, 2) := by decide +kernel
theorem dX12_voice_64 : decode cX12_voice 64 = .ok (.iload_n 3, 1) := by decide +kernel
theorem dX12_voice_65 : decode cX12_voice 65 = .ok (.invokevirtual 274, 3) := by decide +kernel
theorem dX12_voice_68 : decode cX12_voice 68 = .ok (.goto 25, 3) := by decide +kernel
theorem dX12_voice_71 : decode cX12_voice 71 = .ok (.iload_n 2, 1) := by decide +kernel
theorem dX12_voice_72 : decode cX12_voice 72 = .ok (.iconst 2, 1) := by decide +kernel
theorem dX12_voice_73 : decode cX12_voice 73 = .ok (.if_icmp .ne 13, 3) := by decide +kernel
theorem dX12_voice_76 : decode cX12_voice 76 = .ok (.aload_n 0, 1) := by decide +kernel
theorem dX12_voice_77 : decode cX12_voice 77 = .ok (.iload 4, 2) := by decide +kernel
theorem dX12_voice_79 : decode cX12_voice 79 = .ok (.iload_n 3, 1) := by decide +kernel
theorem dX12_voice_80 : decode cX12_voice 80 = .ok (.invokevirtual 277, 3) := by decide +kernel
theorem dX12_voice_83 : decode cX12_voice 83 = .ok (.goto 10, 3) := by decide +kernel
theorem dX12_voice_86 : decode cX12_voice 86 = .ok (.aload_n 0, 1) := by decide +kernel
theorem dX12_voice_87 : decode cX12_voice 87 = .ok (.iload 4, 2) := by decide +kernel
theorem dX12_voice_89 : decode cX12_voice 89 = .ok (.iload_n 3, 1) := by decide +kernel
theorem dX12_voice_90 : decode cX12_voice 90 = .ok (.invokevirtual 280, 3) := by decide +kernel
theorem dX12_voice_93 : decode cX12_voice 93 = .ok (.ireturn, 1) := by decide +kernel
theorem dX12_trace_0 : decode cX12_trace 0 = .ok (.iload_n 1, 1) := by decide +kernel
theorem dX12_trace_1 : decode cX12_trace 1 = .ok (.i2l, 1) := by decide +kernel
theorem dX12_trace_2 : decode cX12_trace 2 = .ok (.lconst 0, 1) := by decide +kernel
theorem dX12_trace_3 : decode cX12_trace 3 = .ok (.aload_n 0, 1) := by decide +kernel
theorem dX12_trace_4 : decode cX12_trace 4 = .ok (.getfield 259, 3) := by decide +kernel
theorem dX12_trace_7 : decode cX12_trace 7 = .ok (.iconst 1, 1) := by decide +kernel
theorem dX12_trace_8 : decode cX12_trace 8 = .ok (.isub, 1) := by decide +kernel
theorem dX12_trace_9 : decode cX12_trace 9 = .ok (.i2l, 1) := by decide +kernel
theorem dX12_trace_10 : decode cX12_trace 10 = .ok (.invokestatic 55, 3) := by decide +kernel
theorem dX12_trace_13 : decode cX12_trace 13 = .ok (.ifCond .eq 12, 3) := by decide +kernel
theorem dX12_trace_16 : decode cX12_trace 16 = .ok (.aload_n 0, 1) := by decide +kernel
theorem dX12_trace_17 : decode cX12_trace 17 = .ok (.getfield 31, 3) := by decide +kernel
theorem dX12_trace_20 : decode cX12_trace 20 = .ok (.iload_n 1, 1) := by decide +kernel
theorem dX12_trace_21 : decode cX12_trace 21 = .ok (.iaload, 1) := by decide +kernel
theorem dX12_trace_22 : decode cX12_trace 22 = .ok (.goto 8, 3) := by decide +kernel
theorem dX12_trace_25 : decode cX12_trace 25 = .ok (.aload_n 0, 1) := by decide +kernel
theorem dX12_trace_26 : decode cX12_trace 26 = .ok (.iconst 2, 1) := by decide +kernel
theorem dX12_trace_27 : decode cX12_trace 27 = .ok (.invokevirtual 119, 3) := by decide +kernel
theorem dX12_trace_30 : decode cX12_trace 30 = .ok (.ireturn, 1) := by decide +kernel
theorem dX12_isSheet_0 : decode cX12_isSheet 0 = .ok (.iload_n 0, 1) := by decide +kernel
theorem dX12_isSheet_1 : decode cX12_isSheet 1 = .ok (.i2l, 1) := by decide +kernel
theorem dX12_isSheet_2 : decode cX12_isSheet 2 = .ok (.lconst 0, 1) := by decide +kernel
theorem dX12_isSheet_3 : decode cX12_isSheet 3 = .ok (.ldc2_w 59, 3) := by decide +kernel
theorem dX12_isSheet_6 : decode cX12_isSheet 6 = .ok (.invokestatic 55, 3) := by decide +kernel
theorem dX12_isSheet_9 : decode cX12_isSheet 9 = .ok (.ireturn, 1) := by decide +kernel
theorem dX12_sheet_0 : decode cX12_sheet 0 = .ok (.iload_n 1, 1) := by decide +kernel
theorem dX12_sheet_1 : decode cX12_sheet 1 = .ok (.invokestatic 251, 3) := by decide +kernel
theorem dX12_sheet_4 : decode cX12_sheet 4 = .ok (.ifCond .eq 25, 3) := by decide +kernel
theorem dX12_sheet_7 : decode cX12_sheet 7 = .ok (.iload_n 2, 1) := by decide +kernel
theorem dX12_sheet_8 : decode cX12_sheet 8 = .ok (.ifCond .eq 27, 3) := by decide +kernel
theorem dX12_sheet_11 : decode cX12_sheet 11 = .ok (.iload_n 2, 1) := by decide +kernel
theorem dX12_sheet_12 : decode cX12_sheet 12 = .ok (.bipush 8, 2) := by decide +kernel
theorem dX12_sheet_14 : decode cX12_sheet 14 = .ok (.if_icmp .eq 21, 3) := by decide +kernel
theorem dX12_sheet_17 : decode cX12_sheet 17 = .ok (.iload_n 2, 1) := by decide +kernel
theorem dX12_sheet_18 : decode cX12_sheet 18 = .ok (.bipush 16, 2) := by decide +kernel
theorem dX12_sheet_20 : decode cX12_sheet 20 = .ok (.if_icmp .eq 15, 3) := by decide +kernel
theorem dX12_sheet_23 : decode cX12_sheet 23 = .ok (.iload_n 2, 1) := by decide +kernel
theorem dX12_sheet_24 : decode cX12_sheet 24 = .ok (.bipush 32, 2) := by decide +kernel
theorem dX12_sheet_26 : decode cX12_sheet 26 = .ok (.if_icmp .eq 9, 3) := by decide +kernel
theorem dX12_sheet_29 : decode cX12_sheet 29 = .ok (.aload_n 0, 1) := by decide +kernel
theorem dX12_sheet_30 : decode cX12_sheet 30 = .ok (.iconst 1, 1) := by decide +kernel
theorem dX12_sheet_31 : decode cX12_sheet 31 = .ok (.invokevirtual 119, 3) := by decide +kernel
theorem dX12_sheet_34 : decode cX12_sheet 34 = .ok (.ireturn, 1) := by decide +kernel
theorem dX12_sheet_35 : decode cX12_sheet 35 = .ok (.iload_n 2, 1) := by decide +kernel
theorem dX12_sheet_36 : decode cX12_sheet 36 = .ok (.ifCond .eq 13, 3) := by decide +kernel
theorem dX12_sheet_39 : decode cX12_sheet 39 = .ok (.iload_n 3, 1) := by decide +kernel
theorem dX12_sheet_40 : decode cX12_sheet 40 = .ok (.ifCond .ge 9, 3) := by decide +kernel
theorem dX12_sheet_43 : decode cX12_sheet 43 = .ok (.aload_n 0, 1) := by decide +kernel
theorem dX12_sheet_44 : decode cX12_sheet 44 = .ok (.iconst 3, 1) := by decide +kernel
theorem dX12_sheet_45 : decode cX12_sheet 45 = .ok (.invokevirtual 119, 3) := by decide +kernel
theorem dX12_sheet_48 : decode cX12_sheet 48 = .ok (.ireturn, 1) := by decide +kernel
theorem dX12_sheet_49 : decode cX12_sheet 49 = .ok (.iload_n 2, 1) := by decide +kernel
theorem dX12_sheet_50 : decode cX12_sheet 50 = .ok (.ifCond .eq 15, 3) := by decide +kernel
theorem dX12_sheet_53 : decode cX12_sheet 53 = .ok (.iload_n 3, 1) := by decide +kernel
theorem dX12_sheet_54 : decode cX12_sheet 54 = .ok (.bipush 40, 2) := by decide +kernel
theorem dX12_sheet_56 : decode cX12_sheet 56 = .ok (.if_icmp .le 9, 3) := by decide +kernel
theorem dX12_sheet_59 : decode cX12_sheet 59 = .ok (.aload_n 0, 1) := by decide +kernel
theorem dX12_sheet_60 : decode cX12_sheet 60 = .ok (.iconst 1, 1) := by decide +kernel
theorem dX12_sheet_61 : decode cX12_sheet 61 = .ok (.invokevirtual 119, 3) := by decide +kernel
theorem dX12_sheet_64 : decode cX12_sheet 64 = .ok (.ireturn, 1) := by decide +kernel
theorem dX12_sheet_65 : decode cX12_sheet 65 = .ok (.aload_n 0, 1) := by decide +kernel
theorem dX12_sheet_66 : decode cX12_sheet 66 = .ok (.getfield 34, 3) := by decide +kernel
theorem dX12_sheet_69 : decode cX12_sheet 69 = .ok (.iload_n 1, 1) := by decide +kernel
theorem dX12_sheet_70 : decode cX12_sheet 70 = .ok (.iload_n 2, 1) := by decide +kernel
theorem dX12_sheet_71 : decode cX12_sheet 71 = .ok (.iastore, 1) := by decide +kernel
theorem dX12_sheet_72 : decode cX12_sheet 72 = .ok (.aload_n 0, 1) := by decide +kernel
theorem dX12_sheet_73 : decode cX12_sheet 73 = .ok (.getfield 37, 3) := by decide +kernel
theorem dX12_sheet_76 : decode cX12_sheet 76 = .ok (.iload_n 1, 1) := by decide +kernel
theorem dX12_sheet_77 : decode cX12_sheet 77 = .ok (.iload_n 2, 1) := by decide +kernel
theorem dX12_sheet_78 : decode cX12_sheet 78 = .ok (.ifCond .ne 7, 3) := by decide +kernel
theorem dX12_sheet_81 : decode cX12_sheet 81 = .ok (.iconst 0, 1) := by decide +kernel
theorem dX12_sheet_82 : decode cX12_sheet 82 = .ok (.goto 4, 3) := by decide +kernel
theorem dX12_sheet_85 : decode cX12_sheet 85 = .ok (.iload_n 3, 1) := by decide +kernel
theorem dX12_sheet_86 : decode cX12_sheet 86 = .ok (.iastore, 1) := by decide +kernel
theorem dX12_sheet_87 : decode cX12_sheet 87 = .ok (.iconst 0, 1) := by decide +kernel
theorem dX12_sheet_88 : decode cX12_sheet 88 = .ok (.istore 4, 2) := by decide +kernel
theorem dX12_sheet_90 : decode cX12_sheet 90 = .ok (.iload 4, 2) := by decide +kernel
theorem dX12_sheet_92 : decode cX12_sheet 92 = .ok (.bipush 40, 2) := by decide +kernel
theorem dX12_sheet_94 : decode cX12_sheet 94 = .ok (.if_icmp .ge 22, 3) := by decide +kernel
theorem dX12_sheet_97 : decode cX12_sheet 97 = .ok (.aload_n 0, 1) := by decide +kernel
theorem dX12_sheet_98 : decode cX12_sheet 98 = .ok (.getfield 40, 3) := by decide +kernel
theorem dX12_sheet_101 : decode cX12_sheet 101 = .ok (.bipush 40, 2) := by decide +kernel
theorem dX12_sheet_103 : decode cX12_sheet 103 = .ok (.iload_n 1, 1) := by decide +kernel
theorem dX12_sheet_104 : decode cX12_sheet 104 = .ok (.imul, 1) := by decide +kernel
theorem dX12_sheet_105 : decode cX12_sheet 105 = .ok (.iload 4, 2) := by decide +kernel
theorem dX12_sheet_107 : decode cX12_sheet 107 = .ok (.iadd, 1) := by decide +kernel
theorem dX12_sheet_108 : decode cX12_sheet 108 = .ok (.iconst 0, 1) := by decide +kernel
theorem dX12_sheet_109 : decode cX12_sheet 109 = .ok (.iastore, 1) := by decide +kernel
theorem dX12_sheet_110 : decode cX12_sheet 110 = .ok (.iinc 4 1, 3) := by decide +kernel
theorem dX12_sheet_113 : decode cX12_sheet 113 = .ok (.goto (-23), 3) := by decide +kernel
theorem dX12_sheet_116 : decode cX12_sheet 116 = .ok (.iconst 1, 1) := by decide +kernel
theorem dX12_sheet_117 : decode cX12_sheet 117 = .ok (.ireturn, 1) := by decide +kernel
theorem dX12_put_0 : decode cX12_put 0 = .ok (.iload_n 1, 1) := by decide +kernel
theorem dX12_put_1 : decode cX12_put 1 = .ok (.invokestatic 251, 3) := by decide +kernel
theorem dX12_put_4 : decode cX12_put 4 = .ok (.ifCond .ne 9, 3) := by decide +kernel
theorem dX12_put_7 : decode cX12_put 7 = .ok (.aload_n 0, 1) := by decide +kernel
theorem dX12_put_8 : decode cX12_put 8 = .ok (.iconst 1, 1) := by decide +kernel
theorem dX12_put_9 : decode cX12_put 9 = .ok (.invokevirtual 119, 3) := by decide +kernel
theorem dX12_put_12 : decode cX12_put 12 = .ok (.ireturn, 1) := by decide +kernel
theorem dX12_put_13 : decode cX12_put 13 = .ok (.aload_n 0, 1) := by decide +kernel
theorem dX12_put_14 : decode cX12_put 14 = .ok (.getfield 34, 3) := by decide +kernel
theorem dX12_put_17 : decode cX12_put 17 = .ok (.iload_n 1, 1) := by decide +kernel
theorem dX12_put_18 : decode cX12_put 18 = .ok (.iaload, 1) := by decide +kernel
theorem dX12_put_19 : decode cX12_put 19 = .ok (.ifCond .ne 9, 3) := by decide +kernel
theorem dX12_put_22 : decode cX12_put 22 = .ok (.aload_n 0, 1) := by decide +kernel
theorem dX12_put_23 : decode cX12_put 23 = .ok (.iconst 2, 1) := by decide +kernel
theorem dX12_put_24 : decode cX12_put 24 = .ok (.invokevirtual 119, 3) := by decide +kernel
theorem dX12_put_27 : decode cX12_put 27 = .ok (.ireturn, 1) := by decide +kernel
theorem dX12_put_28 : decode cX12_put 28 = .ok (.iload_n 2, 1) := by decide +kernel
theorem dX12_put_29 : decode cX12_put 29 = .ok (.i2l, 1) := by decide +kernel
theorem dX12_put_30 : decode cX12_put 30 = .ok (.lconst 0, 1) := by decide +kernel
theorem dX12_put_31 : decode cX12_put 31 = .ok (.aload_n 0, 1) := by decide +kernel
theorem dX12_put_32 : decode cX12_put 32 = .ok (.getfield 37, 3) := by decide +kernel
theorem dX12_put_35 : decode cX12_put 35 = .ok (.iload_n 1, 1) := by decide +kernel
theorem dX12_put_36 : decode cX12_put 36 = .ok (.iaload, 1) := by decide +kernel
theorem dX12_put_37 : decode cX12_put 37 = .ok (.iconst 1, 1) := by decide +kernel
theorem dX12_put_38 : decode cX12_put 38 = .ok (.isub, 1) := by decide +kernel
theorem dX12_put_39 : decode cX12_put 39 = .ok (.i2l, 1) := by decide +kernel
theorem dX12_put_40 : decode cX12_put 40 = .ok (.invokestatic 55, 3) := by decide +kernel
theorem dX12_put_43 : decode cX12_put 43 = .ok (.ifCond .ne 9, 3) := by decide +kernel
theorem dX12_put_46 : decode cX12_put 46 = .ok (.aload_n 0, 1) := by decide +kernel
theorem dX12_put_47 : decode cX12_put 47 = .ok (.iconst 1, 1) := by decide +kernel
theorem dX12_put_48 : decode cX12_put 48 = .ok (.invokevirtual 119, 3) := by decide +kernel
theorem dX12_put_51 : decode cX12_put 51 = .ok (.ireturn, 1) := by decide +kernel
theorem dX12_put_52 : decode cX12_put 52 = .ok (.aload_n 0, 1) := by decide +kernel
theorem dX12_put_53 : decode cX12_put 53 = .ok (.getfield 40, 3) := by decide +kernel
theorem dX12_put_56 : decode cX12_put 56 = .ok (.bipush 40, 2) := by decide +kernel
theorem dX12_put_58 : decode cX12_put 58 = .ok (.iload_n 1, 1) := by decide +kernel
theorem dX12_put_59 : decode cX12_put 59 = .ok (.imul, 1) := by decide +kernel
theorem dX12_put_60 : decode cX12_put 60 = .ok (.iload_n 2, 1) := by decide +kernel
theorem dX12_put_61 : decode cX12_put 61 = .ok (.iadd, 1) := by decide +kernel
theorem dX12_put_62 : decode cX12_put 62 = .ok (.aload_n 0, 1) := by decide +kernel
theorem dX12_put_63 : decode cX12_put 63 = .ok (.getfield 34, 3) := by decide +kernel
theorem dX12_put_66 : decode cX12_put 66 = .ok (.iload_n 1, 1) := by decide +kernel
theorem dX12_put_67 : decode cX12_put 67 = .ok (.iaload, 1) := by decide +kernel
theorem dX12_put_68 : decode cX12_put 68 = .ok (.bipush 8, 2) := by decide +kernel
theorem dX12_put_70 : decode cX12_put 70 = .ok (.if_icmp .ne 8, 3) := by decide +kernel
theorem dX12_put_73 : decode cX12_put 73 = .ok (.iload_n 3, 1) := by decide +kernel
theorem dX12_put_74 : decode cX12_put 74 = .ok (.i2b, 1) := by decide +kernel
theorem dX12_put_75 : decode cX12_put 75 = .ok (.goto 20, 3) := by decide +kernel
theorem dX12_put_78 : decode cX12_put 78 = .ok (.aload_n 0, 1) := by decide +kernel
theorem dX12_put_79 : decode cX12_put 79 = .ok (.getfield 34, 3) := by decide +kernel
theorem dX12_put_82 : decode cX12_put 82 = .ok (.iload_n 1, 1) := by decide +kernel
theorem dX12_put_83 : decode cX12_put 83 = .ok (.iaload, 1) := by decide +kernel
theorem dX12_put_84 : decode cX12_put 84 = .ok (.bipush 16, 2) := by decide +kernel
theorem dX12_put_86 : decode cX12_put 86 = .ok (.if_icmp .ne 8, 3) := by decide +kernel
theorem dX12_put_89 : decode cX12_put 89 = .ok (.iload_n 3, 1) := by decide +kernel
theorem dX12_put_90 : decode cX12_put 90 = .ok (.i2s, 1) := by decide +kernel
theorem dX12_put_91 : decode cX12_put 91 = .ok (.goto 4, 3) := by decide +kernel
theorem dX12_put_94 : decode cX12_put 94 = .ok (.iload_n 3, 1) := by decide +kernel
theorem dX12_put_95 : decode cX12_put 95 = .ok (.iastore, 1) := by decide +kernel
theorem dX12_put_96 : decode cX12_put 96 = .ok (.iconst 1, 1) := by decide +kernel
theorem dX12_put_97 : decode cX12_put 97 = .ok (.ireturn, 1) := by decide +kernel
theorem dX12_move_0 : decode cX12_move 0 = .ok (.iload_n 1, 1) := by decide +kernel
theorem dX12_move_1 : decode cX12_move 1 = .ok (.invokestatic 251, 3) := by decide +kernel
theorem dX12_move_4 : decode cX12_move 4 = .ok (.ifCond .eq 10, 3) := by decide +kernel
theorem dX12_move_7 : decode cX12_move 7 = .ok (.iload_n 3, 1) := by decide +kernel
theorem dX12_move_8 : decode cX12_move 8 = .ok (.invokestatic 251, 3) := by decide +kernel
theorem dX12_move_11 : decode cX12_move 11 = .ok (.ifCond .ne 9, 3) := by decide +kernel
theorem dX12_move_14 : decode cX12_move 14 = .ok (.aload_n 0, 1) := by decide +kernel
theorem dX12_move_15 : decode cX12_move 15 = .ok (.iconst 1, 1) := by decide +kernel
theorem dX12_move_16 : decode cX12_move 16 = .ok (.invokevirtual 119, 3) := by decide +kernel
theorem dX12_move_19 : decode cX12_move 19 = .ok (.ireturn, 1) := by decide +kernel
theorem dX12_move_20 : decode cX12_move 20 = .ok (.aload_n 0, 1) := by decide +kernel
theorem dX12_move_21 : decode cX12_move 21 = .ok (.getfield 34, 3) := by decide +kernel
theorem dX12_move_24 : decode cX12_move 24 = .ok (.iload_n 1, 1) := by decide +kernel
theorem dX12_move_25 : decode cX12_move 25 = .ok (.iaload, 1) := by decide +kernel
theorem dX12_move_26 : decode cX12_move 26 = .ok (.ifCond .eq 12, 3) := by decide +kernel
theorem dX12_move_29 : decode cX12_move 29 = .ok (.aload_n 0, 1) := by decide +kernel
theorem dX12_move_30 : decode cX12_move 30 = .ok (.getfield 34, 3) := by decide +kernel
theorem dX12_move_33 : decode cX12_move 33 = .ok (.iload_n 3, 1) := by decide +kernel
theorem dX12_move_34 : decode cX12_move 34 = .ok (.iaload, 1) := by decide +kernel
theorem dX12_move_35 : decode cX12_move 35 = .ok (.ifCond .ne 9, 3) := by decide +kernel
theorem dX12_move_38 : decode cX12_move 38 = .ok (.aload_n 0, 1) := by decide +kernel
theorem dX12_move_39 : decode cX12_move 39 = .ok (.iconst 2, 1) := by decide +kernel
theorem dX12_move_40 : decode cX12_move 40 = .ok (.invokevirtual 119, 3) := by decide +kernel
theorem dX12_move_43 : decode cX12_move 43 = .ok (.ireturn, 1) := by decide +kernel
theorem dX12_move_44 : decode cX12_move 44 = .ok (.aload_n 0, 1) := by decide +kernel
theorem dX12_move_45 : decode cX12_move 45 = .ok (.getfield 34, 3) := by decide +kernel
theorem dX12_move_48 : decode cX12_move 48 = .ok (.iload_n 1, 1) := by decide +kernel
theorem dX12_move_49 : decode cX12_move 49 = .ok (.iaload, 1) := by decide +kernel
theorem dX12_move_50 : decode cX12_move 50 = .ok (.aload_n 0, 1) := by decide +kernel
theorem dX12_move_51 : decode cX12_move 51 = .ok (.getfield 34, 3) := by decide +kernel
theorem dX12_move_54 : decode cX12_move 54 = .ok (.iload_n 3, 1) := by decide +kernel
theorem dX12_move_55 : decode cX12_move 55 = .ok (.iaload, 1) := by decide +kernel
theorem dX12_move_56 : decode cX12_move 56 = .ok (.if_icmp .eq 9, 3) := by decide +kernel
theorem dX12_move_59 : decode cX12_move 59 = .ok (.aload_n 0, 1) := by decide +kernel
theorem dX12_move_60 : decode cX12_move 60 = .ok (.iconst 5, 1) := by decide +kernel
theorem dX12_move_61 : decode cX12_move 61 = .ok (.invokevirtual 119, 3) := by decide +kernel
theorem dX12_move_64 : decode cX12_move 64 = .ok (.ireturn, 1) := by decide +kernel
theorem dX12_move_65 : decode cX12_move 65 = .ok (.iload 5, 2) := by decide +kernel
theorem dX12_move_67 : decode cX12_move 67 = .ok (.ifCond .lt 39, 3) := by decide +kernel
theorem dX12_move_70 : decode cX12_move 70 = .ok (.iload_n 2, 1) := by decide +kernel
theorem dX12_move_71 : decode cX12_move 71 = .ok (.ifCond .lt 35, 3) := by decide +kernel
theorem dX12_move_74 : decode cX12_move 74 = .ok (.iload 4, 2) := by decide +kernel
theorem dX12_move_76 : decode cX12_move 76 = .ok (.ifCond .lt 30, 3) := by decide +kernel
theorem dX12_move_79 : decode cX12_move 79 = .ok (.iload 5, 2) := by decide +kernel
theorem dX12_move_81 : decode cX12_move 81 = .ok (.aload_n 0, 1) := by decide +kernel
theorem dX12_move_82 : decode cX12_move 82 = .ok (.getfield 37, 3) := by decide +kernel
theorem dX12_move_85 : decode cX12_move 85 = .ok (.iload_n 1, 1) := by decide +kernel
theorem dX12_move_86 : decode cX12_move 86 = .ok (.iaload, 1) := by decide +kernel
theorem dX12_move_87 : decode cX12_move 87 = .ok (.iload_n 2, 1) := by decide +kernel
theorem dX12_move_88 : decode cX12_move 88 = .ok (.isub, 1) := by decide +kernel
theorem dX12_move_89 : decode cX12_move 89 = .ok (.if_icmp .gt 17, 3) := by decide +kernel
theorem dX12_move_92 : decode cX12_move 92 = .ok (.iload 5, 2) := by decide +kernel
theorem dX12_move_94 : decode cX12_move 94 = .ok (.aload_n 0, 1) := by decide +kernel
theorem dX12_move_95 : decode cX12_move 95 = .ok (.getfield 37, 3) := by decide +kernel
theorem dX12_move_98 : decode cX12_move 98 = .ok (.iload_n 3, 1) := by decide +kernel
theorem dX12_move_99 : decode cX12_move 99 = .ok (.iaload, 1) := by decide +kernel
theorem dX12_move_100 : decode cX12_move 100 = .ok (.iload 4, 2) := by decide +kernel
theorem dX12_move_102 : decode cX12_move 102 = .ok (.isub, 1) := by decide +kernel
theorem dX12_move_103 : decode cX12_move 103 = .ok (.if_icmp .le 9, 3) := by decide +kernel
theorem dX12_move_106 : decode cX12_move 106 = .ok (.aload_n 0, 1) := by decide +kernel
theorem dX12_move_107 : decode cX12_move 107 = .ok (.iconst 1, 1) := by decide +kernel
theorem dX12_move_108 : decode cX12_move 108 = .ok (.invokevirtual 119, 3) := by decide +kernel
theorem dX12_move_111 : decode cX12_move 111 = .ok (.ireturn, 1) := by decide +kernel
theorem dX12_move_112 : decode cX12_move 112 = .ok (.iconst 0, 1) := by decide +kernel
theorem dX12_move_113 : decode cX12_move 113 = .ok (.istore 6, 2) := by decide +kernel
theorem dX12_move_115 : decode cX12_move 115 = .ok (.iload 6, 2) := by decide +kernel
theorem dX12_move_117 : decode cX12_move 117 = .ok (.iload 5, 2) := by decide +kernel
theorem dX12_move_119 : decode cX12_move 119 = .ok (.if_icmp .ge 30, 3) := by decide +kernel
theorem dX12_move_122 : decode cX12_move 122 = .ok (.aload_n 0, 1) := by decide +kernel
theorem dX12_move_123 : decode cX12_move 123 = .ok (.getfield 43, 3) := by decide +kernel
theorem dX12_move_126 : decode cX12_move 126 = .ok (.iload 6, 2) := by decide +kernel
theorem dX12_move_128 : decode cX12_move 128 = .ok (.aload_n 0, 1) := by decide +kernel
theorem dX12_move_129 : decode cX12_move 129 = .ok (.getfield 40, 3) := by decide +kernel
theorem dX12_move_132 : decode cX12_move 132 = .ok (.bipush 40, 2) := by decide +kernel
theorem dX12_move_134 : decode cX12_move 134 = .ok (.iload_n 1, 1) := by decide +kernel
theorem dX12_move_135 : decode cX12_move 135 = .ok (.imul, 1) := by decide +kernel
theorem dX12_move_136 : decode cX12_move 136 = .ok (.iload_n 2, 1) := by decide +kernel
theorem dX12_move_137 : decode cX12_move 137 = .ok (.iadd, 1) := by decide +kernel
theorem dX12_move_138 : decode cX12_move 138 = .ok (.iload 6, 2) := by decide +kernel
theorem dX12_move_140 : decode cX12_move 140 = .ok (.iadd, 1) := by decide +kernel
theorem dX12_move_141 : decode cX12_move 141 = .ok (.iaload, 1) := by decide +kernel
theorem dX12_move_142 : decode cX12_move 142 = .ok (.iastore, 1) := by decide +kernel
theorem dX12_move_143 : decode cX12_move 143 = .ok (.iinc 6 1, 3) := by decide +kernel
theorem dX12_move_146 : decode cX12_move 146 = .ok (.goto (-31), 3) := by decide +kernel
theorem dX12_move_149 : decode cX12_move 149 = .ok (.iconst 0, 1) := by decide +kernel
theorem dX12_move_150 : decode cX12_move 150 = .ok (.istore 6, 2) := by decide +kernel
theorem dX12_move_152 : decode cX12_move 152 = .ok (.iload 6, 2) := by decide +kernel
theorem dX12_move_154 : decode cX12_move 154 = .ok (.iload 5, 2) := by decide +kernel
theorem dX12_move_156 : decode cX12_move 156 = .ok (.if_icmp .ge 31, 3) := by decide +kernel
theorem dX12_move_159 : decode cX12_move 159 = .ok (.aload_n 0, 1) := by decide +kernel
theorem dX12_move_160 : decode cX12_move 160 = .ok (.getfield 40, 3) := by decide +kernel
theorem dX12_move_163 : decode cX12_move 163 = .ok (.bipush 40, 2) := by decide +kernel
theorem dX12_move_165 : decode cX12_move 165 = .ok (.iload_n 3, 1) := by decide +kernel
theorem dX12_move_166 : decode cX12_move 166 = .ok (.imul, 1) := by decide +kernel
theorem dX12_move_167 : decode cX12_move 167 = .ok (.iload 4, 2) := by decide +kernel
theorem dX12_move_169 : decode cX12_move 169 = .ok (.iadd, 1) := by decide +kernel
theorem dX12_move_170 : decode cX12_move 170 = .ok (.iload 6, 2) := by decide +kernel
theorem dX12_move_172 : decode cX12_move 172 = .ok (.iadd, 1) := by decide +kernel
theorem dX12_move_173 : decode cX12_move 173 = .ok (.aload_n 0, 1) := by decide +kernel
theorem dX12_move_174 : decode cX12_move 174 = .ok (.getfield 43, 3) := by decide +kernel
theorem dX12_move_177 : decode cX12_move 177 = .ok (.iload 6, 2) := by decide +kernel
theorem dX12_move_179 : decode cX12_move 179 = .ok (.iaload, 1) := by decide +kernel
theorem dX12_move_180 : decode cX12_move 180 = .ok (.iastore, 1) := by decide +kernel
theorem dX12_move_181 : decode cX12_move 181 = .ok (.iinc 6 1, 3) := by decide +kernel
theorem dX12_move_184 : decode cX12_move 184 = .ok (.goto (-32), 3) := by decide +kernel
theorem dX12_move_187 : decode cX12_move 187 = .ok (.iload 5, 2) := by decide +kernel
theorem dX12_move_189 : decode cX12_move 189 = .ok (.ireturn, 1) := by decide +kernel
theorem dX12_airs_0 : decode cX12_airs 0 = .ok (.iload_n 1, 1) := by decide +kernel
theorem dX12_airs_1 : decode cX12_airs 1 = .ok (.invokestatic 251, 3) := by decide +kernel
theorem dX12_airs_4 : decode cX12_airs 4 = .ok (.ifCond .ne 9, 3) := by decide +kernel
theorem dX12_airs_7 : decode cX12_airs 7 = .ok (.aload_n 0, 1) := by decide +kernel
theorem dX12_airs_8 : decode cX12_airs 8 = .ok (.iconst 1, 1) := by decide +kernel
theorem dX12_airs_9 : decode cX12_airs 9 = .ok (.invokevirtual 119, 3) := by decide +kernel
theorem dX12_airs_12 : decode cX12_airs 12 = .ok (.ireturn, 1) := by decide +kernel
theorem dX12_airs_13 : decode cX12_airs 13 = .ok (.aload_n 0, 1) := by decide +kernel
theorem dX12_airs_14 : decode cX12_airs 14 = .ok (.getfield 34, 3) := by decide +kernel
theorem dX12_airs_17 : decode cX12_airs 17 = .ok (.iload_n 1, 1) := by decide +kernel
theorem dX12_airs_18 : decode cX12_airs 18 = .ok (.iaload, 1) := by decide +kernel
theorem dX12_airs_19 : decode cX12_airs 19 = .ok (.ifCond .ne 9, 3) := by decide +kernel
theorem dX12_airs_22 : decode cX12_airs 22 = .ok (.aload_n 0, 1) := by decide +kernel
theorem dX12_airs_23 : decode cX12_airs 23 = .ok (.iconst 2, 1) := by decide +kernel
theorem dX12_airs_24 : decode cX12_airs 24 = .ok (.invokevirtual 119, 3) := by decide +kernel
theorem dX12_airs_27 : decode cX12_airs 27 = .ok (.ireturn, 1) := by decide +kernel
theorem dX12_airs_28 : decode cX12_airs 28 = .ok (.iconst 0, 1) := by decide +kernel
theorem dX12_airs_29 : decode cX12_airs 29 = .ok (.istore_n 2, 1) := by decide +kernel
theorem dX12_airs_30 : decode cX12_airs 30 = .ok (.iload_n 2, 1) := by decide +kernel
theorem dX12_airs_31 : decode cX12_airs 31 = .ok (.aload_n 0, 1) := by decide +kernel
theorem dX12_airs_32 : decode cX12_airs 32 = .ok (.getfield 37, 3) := by decide +kernel
theorem dX12_airs_35 : decode cX12_airs 35 = .ok (.iload_n 1, 1) := by decide +kernel
theorem dX12_airs_36 : decode cX12_airs 36 = .ok (.iaload, 1) := by decide +kernel
theorem dX12_airs_37 : decode cX12_airs 37 = .ok (.if_icmp .ge 59, 3) := by decide +kernel
theorem dX12_airs_40 : decode cX12_airs 40 = .ok (.iload_n 2, 1) := by decide +kernel
theorem dX12_airs_41 : decode cX12_airs 41 = .ok (.aload_n 0, 1) := by decide +kernel
theorem dX12_airs_42 : decode cX12_airs 42 = .ok (.invokevirtual 51, 3) := by decide +kernel
theorem dX12_airs_45 : decode cX12_airs 45 = .ok (.if_icmp .ge 51, 3) := by decide +kernel
theorem dX12_airs_48 : decode cX12_airs 48 = .ok (.aload_n 0, 1) := by decide +kernel
theorem dX12_airs_49 : decode cX12_airs 49 = .ok (.getfield 40, 3) := by decide +kernel
theorem dX12_airs_52 : decode cX12_airs 52 = .ok (.bipush 40, 2) := by decide +kernel
theorem dX12_airs_54 : decode cX12_airs 54 = .ok (.iload_n 1, 1) := by decide +kernel
theorem dX12_airs_55 : decode cX12_airs 55 = .ok (.imul, 1) := by decide +kernel
theorem dX12_airs_56 : decode cX12_airs 56 = .ok (.iload_n 2, 1) := by decide +kernel
theorem dX12_airs_57 : decode cX12_airs 57 = .ok (.iadd, 1) := by decide +kernel
theorem dX12_airs_58 : decode cX12_airs 58 = .ok (.iaload, 1) := by decide +kernel
theorem dX12_airs_59 : decode cX12_airs 59 = .ok (.i2l, 1) := by decide +kernel
theorem dX12_airs_60 : decode cX12_airs 60 = .ok (.lconst 0, 1) := by decide +kernel
theorem dX12_airs_61 : decode cX12_airs 61 = .ok (.ldc2_w 140, 3) := by decide +kernel
theorem dX12_airs_64 : decode cX12_airs 64 = .ok (.invokestatic 55, 3) := by decide +kernel
theorem dX12_airs_67 : decode cX12_airs 67 = .ok (.ifCond .eq 29, 3) := by decide +kernel
theorem dX12_airs_70 : decode cX12_airs 70 = .ok (.aload_n 0, 1) := by decide +kernel
theorem dX12_airs_71 : decode cX12_airs 71 = .ok (.getfield 7, 3) := by decide +kernel
theorem dX12_airs_74 : decode cX12_airs 74 = .ok (.bipush 10, 2) := by decide +kernel
theorem dX12_airs_76 : decode cX12_airs 76 = .ok (.iload_n 2, 1) := by decide +kernel
theorem dX12_airs_77 : decode cX12_airs 77 = .ok (.iadd, 1) := by decide +kernel
theorem dX12_airs_78 : decode cX12_airs 78 = .ok (.aload_n 0, 1) := by decide +kernel
theorem dX12_airs_79 : decode cX12_airs 79 = .ok (.getfield 40, 3) := by decide +kernel
theorem dX12_airs_82 : decode cX12_airs 82 = .ok (.bipush 40, 2) := by decide +kernel
theorem dX12_airs_84 : decode cX12_airs 84 = .ok (.iload_n 1, 1) := by decide +kernel
theorem dX12_airs_85 : decode cX12_airs 85 = .ok (.imul, 1) := by decide +kernel
theorem dX12_airs_86 : decode cX12_airs 86 = .ok (.iload_n 2, 1) := by decide +kernel
theorem dX12_airs_87 : decode cX12_airs 87 = .ok (.iadd, 1) := by decide +kernel
theorem dX12_airs_88 : decode cX12_airs 88 = .ok (.iaload, 1) := by decide +kernel
theorem dX12_airs_89 : decode cX12_airs 89 = .ok (.iastore, 1) := by decide +kernel
theorem dX12_airs_90 : decode cX12_airs 90 = .ok (.iinc 2 1, 3) := by decide +kernel
theorem dX12_airs_93 : decode cX12_airs 93 = .ok (.goto (-63), 3) := by decide +kernel
theorem dX12_airs_96 : decode cX12_airs 96 = .ok (.iload_n 2, 1) := by decide +kernel
theorem dX12_airs_97 : decode cX12_airs 97 = .ok (.ireturn, 1) := by decide +kernel
theorem dX12_judge_0 : decode cX12_judge 0 = .ok (.iload_n 1, 1) := by decide +kernel
theorem dX12_judge_1 : decode cX12_judge 1 = .ok (.invokestatic 251, 3) := by decide +kernel
theorem dX12_judge_4 : decode cX12_judge 4 = .ok (.ifCond .ne 9, 3) := by decide +kernel
theorem dX12_judge_7 : decode cX12_judge 7 = .ok (.aload_n 0, 1) := by decide +kernel
theorem dX12_judge_8 : decode cX12_judge 8 = .ok (.iconst 1, 1) := by decide +kernel
theorem dX12_judge_9 : decode cX12_judge 9 = .ok (.invokevirtual 119, 3) := by decide +kernel
theorem dX12_judge_12 : decode cX12_judge 12 = .ok (.ireturn, 1) := by decide +kernel
theorem dX12_judge_13 : decode cX12_judge 13 = .ok (.aload_n 0, 1) := by decide +kernel
theorem dX12_judge_14 : decode cX12_judge 14 = .ok (.getfield 34, 3) := by decide +kernel
theorem dX12_judge_17 : decode cX12_judge 17 = .ok (.iload_n 1, 1) := by decide +kernel
theorem dX12_judge_18 : decode cX12_judge 18 = .ok (.iaload, 1) := by decide +kernel
theorem dX12_judge_19 : decode cX12_judge 19 = .ok (.ifCond .ne 9, 3) := by decide +kernel
theorem dX12_judge_22 : decode cX12_judge 22 = .ok (.aload_n 0, 1) := by decide +kernel
theorem dX12_judge_23 : decode cX12_judge 23 = .ok (.iconst 2, 1) := by decide +kernel
theorem dX12_judge_24 : decode cX12_judge 24 = .ok (.invokevirtual 119, 3) := by decide +kernel
theorem dX12_judge_27 : decode cX12_judge 27 = .ok (.ireturn, 1) := by decide +kernel
theorem dX12_judge_28 : decode cX12_judge 28 = .ok (.iconst 0, 1) := by decide +kernel
theorem dX12_judge_29 : decode cX12_judge 29 = .ok (.istore_n 2, 1) := by decide +kernel
theorem dX12_judge_30 : decode cX12_judge 30 = .ok (.iload_n 2, 1) := by decide +kernel
theorem dX12_judge_31 : decode cX12_judge 31 = .ok (.aload_n 0, 1) := by decide +kernel
theorem dX12_judge_32 : decode cX12_judge 32 = .ok (.getfield 37, 3) := by decide +kernel
theorem dX12_judge_35 : decode cX12_judge 35 = .ok (.iload_n 1, 1) := by decide +kernel
theorem dX12_judge_36 : decode cX12_judge 36 = .ok (.iaload, 1) := by decide +kernel
theorem dX12_judge_37 : decode cX12_judge 37 = .ok (.if_icmp .ge 40, 3) := by decide +kernel
theorem dX12_judge_40 : decode cX12_judge 40 = .ok (.iload_n 2, 1) := by decide +kernel
theorem dX12_judge_41 : decode cX12_judge 41 = .ok (.aload_n 0, 1) := by decide +kernel
theorem dX12_judge_42 : decode cX12_judge 42 = .ok (.invokevirtual 51, 3) := by decide +kernel
theorem dX12_judge_45 : decode cX12_judge 45 = .ok (.if_icmp .ge 32, 3) := by decide +kernel
theorem dX12_judge_48 : decode cX12_judge 48 = .ok (.aload_n 0, 1) := by decide +kernel
theorem dX12_judge_49 : decode cX12_judge 49 = .ok (.getfield 40, 3) := by decide +kernel
theorem dX12_judge_52 : decode cX12_judge 52 = .ok (.bipush 40, 2) := by decide +kernel
theorem dX12_judge_54 : decode cX12_judge 54 = .ok (.iload_n 1, 1) := by decide +kernel
theorem dX12_judge_55 : decode cX12_judge 55 = .ok (.imul, 1) := by decide +kernel
theorem dX12_judge_56 : decode cX12_judge 56 = .ok (.iload_n 2, 1) := by decide +kernel
