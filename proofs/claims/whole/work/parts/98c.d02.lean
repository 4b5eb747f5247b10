theorem dX11_stroke_0 : decode cX11_stroke 0 = .ok (.aload_n 0, 1) := by decide +kernel
theorem dX11_stroke_1 : decode cX11_stroke 1 = .ok (.iload_n 1, 1) := by decide +kernel
theorem dX11_stroke_2 : decode cX11_stroke 2 = .ok (.invokevirtual 142, 3) := by decide +kernel
theorem dX11_stroke_5 : decode cX11_stroke 5 = .ok (.ifCond .eq 18, 3) := by decide +kernel
theorem dX11_stroke_8 : decode cX11_stroke 8 = .ok (.aload_n 0, 1) := by decide +kernel
theorem dX11_stroke_9 : decode cX11_stroke 9 = .ok (.iload_n 2, 1) := by decide +kernel
theorem dX11_stroke_10 : decode cX11_stroke 10 = .ok (.invokevirtual 97, 3) := by decide +kernel
theorem dX11_stroke_13 : decode cX11_stroke 13 = .ok (.ifCond .eq 10, 3) := by decide +kernel
theorem dX11_stroke_16 : decode cX11_stroke 16 = .ok (.iload_n 3, 1) := by decide +kernel
theorem dX11_stroke_17 : decode cX11_stroke 17 = .ok (.invokestatic 126, 3) := by decide +kernel
theorem dX11_stroke_20 : decode cX11_stroke 20 = .ok (.ifCond .ne 9, 3) := by decide +kernel
theorem dX11_stroke_23 : decode cX11_stroke 23 = .ok (.aload_n 0, 1) := by decide +kernel
theorem dX11_stroke_24 : decode cX11_stroke 24 = .ok (.iconst 1, 1) := by decide +kernel
theorem dX11_stroke_25 : decode cX11_stroke 25 = .ok (.invokevirtual 82, 3) := by decide +kernel
theorem dX11_stroke_28 : decode cX11_stroke 28 = .ok (.ireturn, 1) := by decide +kernel
theorem dX11_stroke_29 : decode cX11_stroke 29 = .ok (.aload_n 0, 1) := by decide +kernel
theorem dX11_stroke_30 : decode cX11_stroke 30 = .ok (.getfield 14, 3) := by decide +kernel
theorem dX11_stroke_33 : decode cX11_stroke 33 = .ok (.getfield 86, 3) := by decide +kernel
theorem dX11_stroke_36 : decode cX11_stroke 36 = .ok (.aload_n 0, 1) := by decide +kernel
theorem dX11_stroke_37 : decode cX11_stroke 37 = .ok (.iload_n 1, 1) := by decide +kernel
theorem dX11_stroke_38 : decode cX11_stroke 38 = .ok (.invokevirtual 145, 3) := by decide +kernel
theorem dX11_stroke_41 : decode cX11_stroke 41 = .ok (.aload_n 0, 1) := by decide +kernel
theorem dX11_stroke_42 : decode cX11_stroke 42 = .ok (.getfield 14, 3) := by decide +kernel
theorem dX11_stroke_45 : decode cX11_stroke 45 = .ok (.getfield 139, 3) := by decide +kernel
theorem dX11_stroke_48 : decode cX11_stroke 48 = .ok (.iload_n 1, 1) := by decide +kernel
theorem dX11_stroke_49 : decode cX11_stroke 49 = .ok (.iaload, 1) := by decide +kernel
theorem dX11_stroke_50 : decode cX11_stroke 50 = .ok (.aload_n 0, 1) := by decide +kernel
theorem dX11_stroke_51 : decode cX11_stroke 51 = .ok (.getfield 14, 3) := by decide +kernel
theorem dX11_stroke_54 : decode cX11_stroke 54 = .ok (.getfield 152, 3) := by decide +kernel
theorem dX11_stroke_57 : decode cX11_stroke 57 = .ok (.iload_n 2, 1) := by decide +kernel
theorem dX11_stroke_58 : decode cX11_stroke 58 = .ok (.iload_n 3, 1) := by decide +kernel
theorem dX11_stroke_59 : decode cX11_stroke 59 = .ok (.invokevirtual 194, 3) := by decide +kernel
theorem dX11_stroke_62 : decode cX11_stroke 62 = .ok (.aload_n 0, 1) := by decide +kernel
theorem dX11_stroke_63 : decode cX11_stroke 63 = .ok (.getfield 14, 3) := by decide +kernel
theorem dX11_stroke_66 : decode cX11_stroke 66 = .ok (.getfield 86, 3) := by decide +kernel
theorem dX11_stroke_69 : decode cX11_stroke 69 = .ok (.getfield 101, 3) := by decide +kernel
theorem dX11_stroke_72 : decode cX11_stroke 72 = .ok (.iload_n 2, 1) := by decide +kernel
theorem dX11_stroke_73 : decode cX11_stroke 73 = .ok (.iaload, 1) := by decide +kernel
theorem dX11_stroke_74 : decode cX11_stroke 74 = .ok (.ireturn, 1) := by decide +kernel
theorem dX11_nights_0 : decode cX11_nights 0 = .ok (.iload_n 1, 1) := by decide +kernel
theorem dX11_nights_1 : decode cX11_nights 1 = .ok (.iconst 1, 1) := by decide +kernel
theorem dX11_nights_2 : decode cX11_nights 2 = .ok (.bipush 30, 2) := by decide +kernel
theorem dX11_nights_4 : decode cX11_nights 4 = .ok (.invokestatic 78, 3) := by decide +kernel
theorem dX11_nights_7 : decode cX11_nights 7 = .ok (.ifCond .ne 9, 3) := by decide +kernel
theorem dX11_nights_10 : decode cX11_nights 10 = .ok (.aload_n 0, 1) := by decide +kernel
theorem dX11_nights_11 : decode cX11_nights 11 = .ok (.iconst 1, 1) := by decide +kernel
theorem dX11_nights_12 : decode cX11_nights 12 = .ok (.invokevirtual 82, 3) := by decide +kernel
theorem dX11_nights_15 : decode cX11_nights 15 = .ok (.ireturn, 1) := by decide +kernel
theorem dX11_nights_16 : decode cX11_nights 16 = .ok (.aload_n 0, 1) := by decide +kernel
theorem dX11_nights_17 : decode cX11_nights 17 = .ok (.getfield 14, 3) := by decide +kernel
theorem dX11_nights_20 : decode cX11_nights 20 = .ok (.getfield 86, 3) := by decide +kernel
theorem dX11_nights_23 : decode cX11_nights 23 = .ok (.getfield 198, 3) := by decide +kernel
theorem dX11_nights_26 : decode cX11_nights 26 = .ok (.sipush 999, 3) := by decide +kernel
theorem dX11_nights_29 : decode cX11_nights 29 = .ok (.iload_n 1, 1) := by decide +kernel
theorem dX11_nights_30 : decode cX11_nights 30 = .ok (.isub, 1) := by decide +kernel
theorem dX11_nights_31 : decode cX11_nights 31 = .ok (.if_icmp .le 9, 3) := by decide +kernel
theorem dX11_nights_34 : decode cX11_nights 34 = .ok (.aload_n 0, 1) := by decide +kernel
theorem dX11_nights_35 : decode cX11_nights 35 = .ok (.iconst 3, 1) := by decide +kernel
theorem dX11_nights_36 : decode cX11_nights 36 = .ok (.invokevirtual 82, 3) := by decide +kernel
theorem dX11_nights_39 : decode cX11_nights 39 = .ok (.ireturn, 1) := by decide +kernel
theorem dX11_nights_40 : decode cX11_nights 40 = .ok (.iconst 0, 1) := by decide +kernel
theorem dX11_nights_41 : decode cX11_nights 41 = .ok (.istore_n 2, 1) := by decide +kernel
theorem dX11_nights_42 : decode cX11_nights 42 = .ok (.iload_n 2, 1) := by decide +kernel
theorem dX11_nights_43 : decode cX11_nights 43 = .ok (.iload_n 1, 1) := by decide +kernel
theorem dX11_nights_44 : decode cX11_nights 44 = .ok (.if_icmp .ge 19, 3) := by decide +kernel
theorem dX11_nights_47 : decode cX11_nights 47 = .ok (.aload_n 0, 1) := by decide +kernel
theorem dX11_nights_48 : decode cX11_nights 48 = .ok (.getfield 14, 3) := by decide +kernel
theorem dX11_nights_51 : decode cX11_nights 51 = .ok (.getfield 86, 3) := by decide +kernel
theorem dX11_nights_54 : decode cX11_nights 54 = .ok (.invokevirtual 201, 3) := by decide +kernel
theorem dX11_nights_57 : decode cX11_nights 57 = .ok (.iinc 2 1, 3) := by decide +kernel
theorem dX11_nights_60 : decode cX11_nights 60 = .ok (.goto (-18), 3) := by decide +kernel
theorem dX11_nights_63 : decode cX11_nights 63 = .ok (.aload_n 0, 1) := by decide +kernel
theorem dX11_nights_64 : decode cX11_nights 64 = .ok (.getfield 14, 3) := by decide +kernel
theorem dX11_nights_67 : decode cX11_nights 67 = .ok (.getfield 86, 3) := by decide +kernel
theorem dX11_nights_70 : decode cX11_nights 70 = .ok (.invokevirtual 204, 3) := by decide +kernel
theorem dX11_nights_73 : decode cX11_nights 73 = .ok (.ireturn, 1) := by decide +kernel
theorem dX11_days_0 : decode cX11_days 0 = .ok (.iload_n 1, 1) := by decide +kernel
theorem dX11_days_1 : decode cX11_days 1 = .ok (.iconst 1, 1) := by decide +kernel
theorem dX11_days_2 : decode cX11_days 2 = .ok (.bipush 30, 2) := by decide +kernel
theorem dX11_days_4 : decode cX11_days 4 = .ok (.invokestatic 78, 3) := by decide +kernel
theorem dX11_days_7 : decode cX11_days 7 = .ok (.ifCond .ne 9, 3) := by decide +kernel
theorem dX11_days_10 : decode cX11_days 10 = .ok (.aload_n 0, 1) := by decide +kernel
theorem dX11_days_11 : decode cX11_days 11 = .ok (.iconst 1, 1) := by decide +kernel
theorem dX11_days_12 : decode cX11_days 12 = .ok (.invokevirtual 82, 3) := by decide +kernel
theorem dX11_days_15 : decode cX11_days 15 = .ok (.ireturn, 1) := by decide +kernel
theorem dX11_days_16 : decode cX11_days 16 = .ok (.aload_n 0, 1) := by decide +kernel
theorem dX11_days_17 : decode cX11_days 17 = .ok (.getfield 14, 3) := by decide +kernel
theorem dX11_days_20 : decode cX11_days 20 = .ok (.getfield 86, 3) := by decide +kernel
theorem dX11_days_23 : decode cX11_days 23 = .ok (.getfield 198, 3) := by decide +kernel
theorem dX11_days_26 : decode cX11_days 26 = .ok (.sipush 999, 3) := by decide +kernel
theorem dX11_days_29 : decode cX11_days 29 = .ok (.iload_n 1, 1) := by decide +kernel
theorem dX11_days_30 : decode cX11_days 30 = .ok (.isub, 1) := by decide +kernel
theorem dX11_days_31 : decode cX11_days 31 = .ok (.if_icmp .gt 13, 3) := by decide +kernel
theorem dX11_days_34 : decode cX11_days 34 = .ok (.aload_n 0, 1) := by decide +kernel
theorem dX11_days_35 : decode cX11_days 35 = .ok (.getfield 14, 3) := by decide +kernel
theorem dX11_days_38 : decode cX11_days 38 = .ok (.getfield 132, 3) := by decide +kernel
theorem dX11_days_41 : decode cX11_days 41 = .ok (.ifCond .ne 9, 3) := by decide +kernel
theorem dX11_days_44 : decode cX11_days 44 = .ok (.aload_n 0, 1) := by decide +kernel
theorem dX11_days_45 : decode cX11_days 45 = .ok (.iconst 3, 1) := by decide +kernel
theorem dX11_days_46 : decode cX11_days 46 = .ok (.invokevirtual 82, 3) := by decide +kernel
theorem dX11_days_49 : decode cX11_days 49 = .ok (.ireturn, 1) := by decide +kernel
theorem dX11_days_50 : decode cX11_days 50 = .ok (.iconst 0, 1) := by decide +kernel
theorem dX11_days_51 : decode cX11_days 51 = .ok (.istore_n 2, 1) := by decide +kernel
theorem dX11_days_52 : decode cX11_days 52 = .ok (.iload_n 2, 1) := by decide +kernel
theorem dX11_days_53 : decode cX11_days 53 = .ok (.iload_n 1, 1) := by decide +kernel
theorem dX11_days_54 : decode cX11_days 54 = .ok (.if_icmp .ge 98, 3) := by decide +kernel
theorem dX11_days_57 : decode cX11_days 57 = .ok (.aload_n 0, 1) := by decide +kernel
theorem dX11_days_58 : decode cX11_days 58 = .ok (.getfield 14, 3) := by decide +kernel
theorem dX11_days_61 : decode cX11_days 61 = .ok (.aload_n 0, 1) := by decide +kernel
theorem dX11_days_62 : decode cX11_days 62 = .ok (.getfield 14, 3) := by decide +kernel
theorem dX11_days_65 : decode cX11_days 65 = .ok (.getfield 132, 3) := by decide +kernel
theorem dX11_days_68 : decode cX11_days 68 = .ok (.invokevirtual 207, 3) := by decide +kernel
theorem dX11_days_71 : decode cX11_days 71 = .ok (.istore_n 3, 1) := by decide +kernel
theorem dX11_days_72 : decode cX11_days 72 = .ok (.aload_n 0, 1) := by decide +kernel
theorem dX11_days_73 : decode cX11_days 73 = .ok (.getfield 14, 3) := by decide +kernel
theorem dX11_days_76 : decode cX11_days 76 = .ok (.aload_n 0, 1) := by decide +kernel
theorem dX11_days_77 : decode cX11_days 77 = .ok (.getfield 14, 3) := by decide +kernel
theorem dX11_days_80 : decode cX11_days 80 = .ok (.getfield 86, 3) := by decide +kernel
theorem dX11_days_83 : decode cX11_days 83 = .ok (.invokevirtual 93, 3) := by decide +kernel
theorem dX11_days_86 : decode cX11_days 86 = .ok (.invokevirtual 207, 3) := by decide +kernel
theorem dX11_days_89 : decode cX11_days 89 = .ok (.istore 4, 2) := by decide +kernel
theorem dX11_days_91 : decode cX11_days 91 = .ok (.aload_n 0, 1) := by decide +kernel
theorem dX11_days_92 : decode cX11_days 92 = .ok (.getfield 14, 3) := by decide +kernel
theorem dX11_days_95 : decode cX11_days 95 = .ok (.iconst 4, 1) := by decide +kernel
theorem dX11_days_96 : decode cX11_days 96 = .ok (.invokevirtual 207, 3) := by decide +kernel
theorem dX11_days_99 : decode cX11_days 99 = .ok (.istore 5, 2) := by decide +kernel
theorem dX11_days_101 : decode cX11_days 101 = .ok (.aload_n 0, 1) := by decide +kernel
theorem dX11_days_102 : decode cX11_days 102 = .ok (.getfield 14, 3) := by decide +kernel
theorem dX11_days_105 : decode cX11_days 105 = .ok (.getfield 86, 3) := by decide +kernel
theorem dX11_days_108 : decode cX11_days 108 = .ok (.aload_n 0, 1) := by decide +kernel
theorem dX11_days_109 : decode cX11_days 109 = .ok (.iload_n 3, 1) := by decide +kernel
theorem dX11_days_110 : decode cX11_days 110 = .ok (.invokevirtual 145, 3) := by decide +kernel
theorem dX11_days_113 : decode cX11_days 113 = .ok (.aload_n 0, 1) := by decide +kernel
theorem dX11_days_114 : decode cX11_days 114 = .ok (.getfield 14, 3) := by decide +kernel
theorem dX11_days_117 : decode cX11_days 117 = .ok (.getfield 139, 3) := by decide +kernel
theorem dX11_days_120 : decode cX11_days 120 = .ok (.iload_n 3, 1) := by decide +kernel
theorem dX11_days_121 : decode cX11_days 121 = .ok (.iaload, 1) := by decide +kernel
theorem dX11_days_122 : decode cX11_days 122 = .ok (.aload_n 0, 1) := by decide +kernel
theorem dX11_days_123 : decode cX11_days 123 = .ok (.getfield 14, 3) := by decide +kernel
theorem dX11_days_126 : decode cX11_days 126 = .ok (.getfield 152, 3) := by decide +kernel
theorem dX11_days_129 : decode cX11_days 129 = .ok (.iload 4, 2) := by decide +kernel
theorem dX11_days_131 : decode cX11_days 131 = .ok (.iload 5, 2) := by decide +kernel
theorem dX11_days_133 : decode cX11_days 133 = .ok (.invokevirtual 194, 3) := by decide +kernel
theorem dX11_days_136 : decode cX11_days 136 = .ok (.aload_n 0, 1) := by decide +kernel
theorem dX11_days_137 : decode cX11_days 137 = .ok (.getfield 14, 3) := by decide +kernel
theorem dX11_days_140 : decode cX11_days 140 = .ok (.getfield 86, 3) := by decide +kernel
theorem dX11_days_143 : decode cX11_days 143 = .ok (.invokevirtual 201, 3) := by decide +kernel
theorem dX11_days_146 : decode cX11_days 146 = .ok (.iinc 2 1, 3) := by decide +kernel
theorem dX11_days_149 : decode cX11_days 149 = .ok (.goto (-97), 3) := by decide +kernel
theorem dX11_days_152 : decode cX11_days 152 = .ok (.aload_n 0, 1) := by decide +kernel
theorem dX11_days_153 : decode cX11_days 153 = .ok (.getfield 14, 3) := by decide +kernel
theorem dX11_days_156 : decode cX11_days 156 = .ok (.getfield 86, 3) := by decide +kernel
theorem dX11_days_159 : decode cX11_days 159 = .ok (.invokevirtual 204, 3) := by decide +kernel
theorem dX11_days_162 : decode cX11_days 162 = .ok (.ireturn, 1) := by decide +kernel
theorem dX11_shown_0 : decode cX11_shown 0 = .ok (.aload_n 0, 1) := by decide +kernel
theorem dX11_shown_1 : decode cX11_shown 1 = .ok (.getfield 14, 3) := by decide +kernel
theorem dX11_shown_4 : decode cX11_shown 4 = .ok (.getfield 86, 3) := by decide +kernel
theorem dX11_shown_7 : decode cX11_shown 7 = .ok (.aload_n 0, 1) := by decide +kernel
theorem dX11_shown_8 : decode cX11_shown 8 = .ok (.getfield 14, 3) := by decide +kernel
theorem dX11_shown_11 : decode cX11_shown 11 = .ok (.getfield 107, 3) := by decide +kernel
theorem dX11_shown_14 : decode cX11_shown 14 = .ok (.invokevirtual 210, 3) := by decide +kernel
theorem dX11_shown_17 : decode cX11_shown 17 = .ok (.ireturn, 1) := by decide +kernel
theorem dX11_bubbles_0 : decode cX11_bubbles 0 = .ok (.aload_n 0, 1) := by decide +kernel
theorem dX11_bubbles_1 : decode cX11_bubbles 1 = .ok (.getfield 14, 3) := by decide +kernel
theorem dX11_bubbles_4 : decode cX11_bubbles 4 = .ok (.getfield 86, 3) := by decide +kernel
theorem dX11_bubbles_7 : decode cX11_bubbles 7 = .ok (.invokevirtual 214, 3) := by decide +kernel
theorem dX11_bubbles_10 : decode cX11_bubbles 10 = .ok (.ireturn, 1) := by decide +kernel
theorem dX11_biggest_0 : decode cX11_biggest 0 = .ok (.iload_n 1, 1) := by decide +kernel
theorem dX11_biggest_1 : decode cX11_biggest 1 = .ok (.iconst 0, 1) := by decide +kernel
theorem dX11_biggest_2 : decode cX11_biggest 2 = .ok (.iconst 1, 1) := by decide +kernel
theorem dX11_biggest_3 : decode cX11_biggest 3 = .ok (.invokestatic 78, 3) := by decide +kernel
theorem dX11_biggest_6 : decode cX11_biggest 6 = .ok (.ifCond .ne 9, 3) := by decide +kernel
theorem dX11_biggest_9 : decode cX11_biggest 9 = .ok (.aload_n 0, 1) := by decide +kernel
theorem dX11_biggest_10 : decode cX11_biggest 10 = .ok (.iconst 1, 1) := by decide +kernel
theorem dX11_biggest_11 : decode cX11_biggest 11 = .ok (.invokevirtual 82, 3) := by decide +kernel
theorem dX11_biggest_14 : decode cX11_biggest 14 = .ok (.ireturn, 1) := by decide +kernel
theorem dX11_biggest_15 : decode cX11_biggest 15 = .ok (.aload_n 0, 1) := by decide +kernel
theorem dX11_biggest_16 : decode cX11_biggest 16 = .ok (.getfield 14, 3) := by decide +kernel
theorem dX11_biggest_19 : decode cX11_biggest 19 = .ok (.getfield 86, 3) := by decide +kernel
theorem dX11_biggest_22 : decode cX11_biggest 22 = .ok (.invokevirtual 217, 3) := by decide +kernel
theorem dX11_biggest_25 : decode cX11_biggest 25 = .ok (.istore_n 2, 1) := by decide +kernel
theorem dX11_biggest_26 : decode cX11_biggest 26 = .ok (.iload_n 2, 1) := by decide +kernel
theorem dX11_biggest_27 : decode cX11_biggest 27 = .ok (.ifCond .ge 9, 3) := by decide +kernel
theorem dX11_biggest_30 : decode cX11_biggest 30 = .ok (.aload_n 0, 1) := by decide +kernel
theorem dX11_biggest_31 : decode cX11_biggest 31 = .ok (.iconst 2, 1) := by decide +kernel
theorem dX11_biggest_32 : decode cX11_biggest 32 = .ok (.invokevirtual 82, 3) := by decide +kernel
theorem dX11_biggest_35 : decode cX11_biggest 35 = .ok (.ireturn, 1) := by decide +kernel
theorem dX11_biggest_36 : decode cX11_biggest 36 = .ok (.iload_n 1, 1) := by decide +kernel
theorem dX11_biggest_37 : decode cX11_biggest 37 = .ok (.ifCond .ne 17, 3) := by decide +kernel
theorem dX11_biggest_40 : decode cX11_biggest 40 = .ok (.aload_n 0, 1) := by decide +kernel
theorem dX11_biggest_41 : decode cX11_biggest 41 = .ok (.getfield 14, 3) := by decide +kernel
theorem dX11_biggest_44 : decode cX11_biggest 44 = .ok (.getfield 86, 3) := by decide +kernel
theorem dX11_biggest_47 : decode cX11_biggest 47 = .ok (.iload_n 2, 1) := by decide +kernel
theorem dX11_biggest_48 : decode cX11_biggest 48 = .ok (.invokevirtual 123, 3) := by decide +kernel
theorem dX11_biggest_51 : decode cX11_biggest 51 = .ok (.goto 4, 3) := by decide +kernel
theorem dX11_biggest_54 : decode cX11_biggest 54 = .ok (.iload_n 2, 1) := by decide +kernel
theorem dX11_biggest_55 : decode cX11_biggest 55 = .ok (.ireturn, 1) := by decide +kernel
theorem dX11_wayOut_0 : decode cX11_wayOut 0 = .ok (.aload_n 0, 1) := by decide +kernel
theorem dX11_wayOut_1 : decode cX11_wayOut 1 = .ok (.iload_n 1, 1) := by decide +kernel
theorem dX11_wayOut_2 : decode cX11_wayOut 2 = .ok (.invokevirtual 97, 3) := by decide +kernel
theorem dX11_wayOut_5 : decode cX11_wayOut 5 = .ok (.ifCond .ne 9, 3) := by decide +kernel
theorem dX11_wayOut_8 : decode cX11_wayOut 8 = .ok (.aload_n 0, 1) := by decide +kernel
theorem dX11_wayOut_9 : decode cX11_wayOut 9 = .ok (.iconst 1, 1) := by decide +kernel
theorem dX11_wayOut_10 : decode cX11_wayOut 10 = .ok (.invokevirtual 82, 3) := by decide +kernel
theorem dX11_wayOut_13 : decode cX11_wayOut 13 = .ok (.ireturn, 1) := by decide +kernel
theorem dX11_wayOut_14 : decode cX11_wayOut 14 = .ok (.bipush 25, 2) := by decide +kernel
theorem dX11_wayOut_16 : decode cX11_wayOut 16 = .ok (.istore_n 2, 1) := by decide +kernel
theorem dX11_wayOut_17 : decode cX11_wayOut 17 = .ok (.iconst 0, 1) := by decide +kernel
theorem dX11_wayOut_18 : decode cX11_wayOut 18 = .ok (.istore_n 3, 1) := by decide +kernel
theorem dX11_wayOut_19 : decode cX11_wayOut 19 = .ok (.iload_n 3, 1) := by decide +kernel
theorem dX11_wayOut_20 : decode cX11_wayOut 20 = .ok (.iconst 4, 1) := by decide +kernel
theorem dX11_wayOut_21 : decode cX11_wayOut 21 = .ok (.if_icmp .ge 40, 3) := by decide +kernel
theorem dX11_wayOut_24 : decode cX11_wayOut 24 = .ok (.aload_n 0, 1) := by decide +kernel
theorem dX11_wayOut_25 : decode cX11_wayOut 25 = .ok (.getfield 14, 3) := by decide +kernel
theorem dX11_wayOut_28 : decode cX11_wayOut 28 = .ok (.getfield 86, 3) := by decide +kernel
theorem dX11_wayOut_31 : decode cX11_wayOut 31 = .ok (.iload_n 3, 1) := by decide +kernel
theorem dX11_wayOut_32 : decode cX11_wayOut 32 = .ok (.invokevirtual 220, 3) := by decide +kernel
theorem dX11_wayOut_35 : decode cX11_wayOut 35 = .ok (.ifCond .eq 20, 3) := by decide +kernel
theorem dX11_wayOut_38 : decode cX11_wayOut 38 = .ok (.iload_n 2, 1) := by decide +kernel
theorem dX11_wayOut_39 : decode cX11_wayOut 39 = .ok (.aload_n 0, 1) := by decide +kernel
theorem dX11_wayOut_40 : decode cX11_wayOut 40 = .ok (.getfield 14, 3) := by decide +kernel
theorem dX11_wayOut_43 : decode cX11_wayOut 43 = .ok (.getfield 86, 3) := by decide +kernel
theorem dX11_wayOut_46 : decode cX11_wayOut 46 = .ok (.iload_n 1, 1) := by decide +kernel
theorem dX11_wayOut_47 : decode cX11_wayOut 47 = .ok (.iload_n 3, 1) := by decide +kernel
theorem dX11_wayOut_48 : decode cX11_wayOut 48 = .ok (.invokevirtual 223, 3) := by decide +kernel
theorem dX11_wayOut_51 : decode cX11_wayOut 51 = .ok (.invokestatic 158, 3) := by decide +kernel
theorem dX11_wayOut_54 : decode cX11_wayOut 54 = .ok (.istore_n 2, 1) := by decide +kernel
theorem dX11_wayOut_55 : decode cX11_wayOut 55 = .ok (.iinc 3 1, 3) := by decide +kernel
theorem dX11_wayOut_58 : decode cX11_wayOut 58 = .ok (.goto (-39), 3) := by decide +kernel
theorem dX11_wayOut_61 : decode cX11_wayOut 61 = .ok (.iload_n 2, 1) := by decide +kernel
theorem dX11_wayOut_62 : decode cX11_wayOut 62 = .ok (.bipush 25, 2) := by decide +kernel
theorem dX11_wayOut_64 : decode cX11_wayOut 64 = .ok (.if_icmp .ge 7, 3) := by decide +kernel
theorem dX11_wayOut_67 : decode cX11_wayOut 67 = .ok (.iload_n 2, 1) := by decide +kernel
theorem dX11_wayOut_68 : decode cX11_wayOut 68 = .ok (.goto 8, 3) := by decide +kernel
theorem dX11_wayOut_71 : decode cX11_wayOut 71 = .ok (.aload_n 0, 1) := by decide +kernel
theorem dX11_wayOut_72 : decode cX11_wayOut 72 = .ok (.iconst 2, 1) := by decide +kernel
theorem dX11_wayOut_73 : decode cX11_wayOut 73 = .ok (.invokevirtual 82, 3) := by decide +kernel
theorem dX11_wayOut_76 : decode cX11_wayOut 76 = .ok (.ireturn, 1) := by decide +kernel
theorem dX11_best_0 : decode cX11_best 0 = .ok (.aload_n 0, 1) := by decide +kernel
theorem dX11_best_1 : decode cX11_best 1 = .ok (.iload_n 1, 1) := by decide +kernel
theorem dX11_best_2 : decode cX11_best 2 = .ok (.invokevirtual 142, 3) := by decide +kernel
theorem dX11_best_5 : decode cX11_best 5 = .ok (.ifCond .eq 12, 3) := by decide +kernel
theorem dX11_best_8 : decode cX11_best 8 = .ok (.iload_n 2, 1) := by decide +kernel
theorem dX11_best_9 : decode cX11_best 9 = .ok (.iconst 0, 1) := by decide +kernel
theorem dX11_best_10 : decode cX11_best 10 = .ok (.iconst 1, 1) := by decide +kernel
theorem dX11_best_11 : decode cX11_best 11 = .ok (.invokestatic 78, 3) := by decide +kernel
theorem dX11_best_14 : decode cX11_best 14 = .ok (.ifCond .ne 9, 3) := by decide +kernel
theorem dX11_best_17 : decode cX11_best 17 = .ok (.aload_n 0, 1) := by decide +kernel
theorem dX11_best_18 : decode cX11_best 18 = .ok (.iconst 1, 1) := by decide +kernel
theorem dX11_best_19 : decode cX11_best 19 = .ok (.invokevirtual 82, 3) := by decide +kernel
theorem dX11_best_22 : decode cX11_best 22 = .ok (.ireturn, 1) := by decide +kernel
theorem dX11_best_23 : decode cX11_best 23 = .ok (.aload_n 0, 1) := by decide +kernel
theorem dX11_best_24 : decode cX11_best 24 = .ok (.aload_n 0, 1) := by decide +kernel
theorem dX11_best_25 : decode cX11_best 25 = .ok (.getfield 14, 3) := by decide +kernel
theorem dX11_best_28 : decode cX11_best 28 = .ok (.getfield 86, 3) := by decide +kernel
theorem dX11_best_31 : decode cX11_best 31 = .ok (.aload_n 0, 1) := by decide +kernel
theorem dX11_best_32 : decode cX11_best 32 = .ok (.iload_n 1, 1) := by decide +kernel
theorem dX11_best_33 : decode cX11_best 33 = .ok (.invokevirtual 145, 3) := by decide +kernel
theorem dX11_best_36 : decode cX11_best 36 = .ok (.aload_n 0, 1) := by decide +kernel
theorem dX11_best_37 : decode cX11_best 37 = .ok (.getfield 14, 3) := by decide +kernel
theorem dX11_best_40 : decode cX11_best 40 = .ok (.getfield 139, 3) := by decide +kernel
theorem dX11_best_43 : decode cX11_best 43 = .ok (.iload_n 1, 1) := by decide +kernel
theorem dX11_best_44 : decode cX11_best 44 = .ok (.iaload, 1) := by decide +kernel
theorem dX11_best_45 : decode cX11_best 45 = .ok (.invokevirtual 226, 3) := by decide +kernel
theorem dX11_best_48 : decode cX11_best 48 = .ok (.iload_n 2, 1) := by decide +kernel
theorem dX11_best_49 : decode cX11_best 49 = .ok (.invokestatic 230, 3) := by decide +kernel
theorem dX11_best_52 : decode cX11_best 52 = .ok (.ireturn, 1) := by decide +kernel
theorem dX11_bestTwo_0 : decode cX11_bestTwo 0 = .ok (.aload_n 0, 1) := by decide +kernel
theorem dX11_bestTwo_1 : decode cX11_bestTwo 1 = .ok (.iload_n 1, 1) := by decide +kernel
theorem dX11_bestTwo_2 : decode cX11_bestTwo 2 = .ok (.invokevirtual 142, 3) := by decide +kernel
theorem dX11_bestTwo_5 : decode cX11_bestTwo 5 = .ok (.ifCond .eq 12, 3) := by decide +kernel
theorem dX11_bestTwo_8 : decode cX11_bestTwo 8 = .ok (.iload_n 2, 1) := by decide +kernel
theorem dX11_bestTwo_9 : decode cX11_bestTwo 9 = .ok (.iconst 0, 1) := by decide +kernel
theorem dX11_bestTwo_10 : decode cX11_bestTwo 10 = .ok (.iconst 1, 1) := by decide +kernel
theorem dX11_bestTwo_11 : decode cX11_bestTwo 11 = .ok (.invokestatic 78, 3) := by decide +kernel
theorem dX11_bestTwo_14 : decode cX11_bestTwo 14 = .ok (.ifCond .ne 9, 3) := by decide +kernel
theorem dX11_bestTwo_17 : decode cX11_bestTwo 17 = .ok (.aload_n 0, 1) := by decide +kernel
theorem dX11_bestTwo_18 : decode cX11_bestTwo 18 = .ok (.iconst 1, 1) := by decide +kernel
theorem dX11_bestTwo_19 : decode cX11_bestTwo 19 = .ok (.invokevirtual 82, 3) := by decide +kernel
theorem dX11_bestTwo_22 : decode cX11_bestTwo 22 = .ok (.ireturn, 1) := by decide +kernel
theorem dX11_bestTwo_23 : decode cX11_bestTwo 23 = .ok (.aload_n 0, 1) := by decide +kernel
theorem dX11_bestTwo_24 : decode cX11_bestTwo 24 = .ok (.iload_n 1, 1) := by decide +kernel
theorem dX11_bestTwo_25 : decode cX11_bestTwo 25 = .ok (.invokevirtual 145, 3) := by decide +kernel
theorem dX11_bestTwo_28 : decode cX11_bestTwo 28 = .ok (.astore_n 3, 1) := by decide +kernel
theorem dX11_bestTwo_29 : decode cX11_bestTwo 29 = .ok (.aload_n 0, 1) := by decide +kernel
theorem dX11_bestTwo_30 : decode cX11_bestTwo 30 = .ok (.getfield 14, 3) := by decide +kernel
theorem dX11_bestTwo_33 : decode cX11_bestTwo 33 = .ok (.getfield 139, 3) := by decide +kernel
theorem dX11_bestTwo_36 : decode cX11_bestTwo 36 = .ok (.iload_n 1, 1) := by decide +kernel
theorem dX11_bestTwo_37 : decode cX11_bestTwo 37 = .ok (.iaload, 1) := by decide +kernel
theorem dX11_bestTwo_38 : decode cX11_bestTwo 38 = .ok (.istore 4, 2) := by decide +kernel
theorem dX11_bestTwo_40 : decode cX11_bestTwo 40 = .ok (.aload_n 0, 1) := by decide +kernel
theorem dX11_bestTwo_41 : decode cX11_bestTwo 41 = .ok (.getfield 14, 3) := by decide +kernel
theorem dX11_bestTwo_44 : decode cX11_bestTwo 44 = .ok (.getfield 86, 3) := by decide +kernel
theorem dX11_bestTwo_47 : decode cX11_bestTwo 47 = .ok (.invokevirtual 93, 3) := by decide +kernel
theorem dX11_bestTwo_50 : decode cX11_bestTwo 50 = .ok (.istore 5, 2) := by decide +kernel
theorem dX11_bestTwo_52 : decode cX11_bestTwo 52 = .ok (.ldc 235, 2) := by decide +kernel
theorem dX11_bestTwo_54 : decode cX11_bestTwo 54 = .ok (.istore 6, 2) := by decide +kernel
theorem dX11_bestTwo_56 : decode cX11_bestTwo 56 = .ok (.iconst 0, 1) := by decide +kernel
theorem dX11_bestTwo_57 : decode cX11_bestTwo 57 = .ok (.istore 7, 2) := by decide +kernel
theorem dX11_bestTwo_59 : decode cX11_bestTwo 59 = .ok (.iload 7, 2) := by decide +kernel
theorem dX11_bestTwo_61 : decode cX11_bestTwo 61 = .ok (.iload 5, 2) := by decide +kernel
theorem dX11_bestTwo_63 : decode cX11_bestTwo 63 = .ok (.if_icmp .ge 98, 3) := by decide +kernel
theorem dX11_bestTwo_66 : decode cX11_bestTwo 66 = .ok (.iconst 0, 1) := by decide +kernel
theorem dX11_bestTwo_67 : decode cX11_bestTwo 67 = .ok (.istore 8, 2) := by decide +kernel
theorem dX11_bestTwo_69 : decode cX11_bestTwo 69 = .ok (.iload 8, 2) := by decide +kernel
theorem dX11_bestTwo_71 : decode cX11_bestTwo 71 = .ok (.iconst 4, 1) := by decide +kernel
theorem dX11_bestTwo_72 : decode cX11_bestTwo 72 = .ok (.if_icmp .ge 83, 3) := by decide +kernel
theorem dX11_bestTwo_75 : decode cX11_bestTwo 75 = .ok (.aload_n 0, 1) := by decide +kernel
theorem dX11_bestTwo_76 : decode cX11_bestTwo 76 = .ok (.getfield 56, 3) := by decide +kernel
theorem dX11_bestTwo_79 : decode cX11_bestTwo 79 = .ok (.aload_n 0, 1) := by decide +kernel
theorem dX11_bestTwo_80 : decode cX11_bestTwo 80 = .ok (.getfield 14, 3) := by decide +kernel
theorem dX11_bestTwo_83 : decode cX11_bestTwo 83 = .ok (.getfield 86, 3) := by decide +kernel
theorem dX11_bestTwo_86 : decode cX11_bestTwo 86 = .ok (.invokevirtual 236, 3) := by decide +kernel
theorem dX11_bestTwo_89 : decode cX11_bestTwo 89 = .ok (.aload_n 0, 1) := by decide +kernel
theorem dX11_bestTwo_90 : decode cX11_bestTwo 90 = .ok (.getfield 56, 3) := by decide +kernel
theorem dX11_bestTwo_93 : decode cX11_bestTwo 93 = .ok (.aload_n 3, 1) := by decide +kernel
theorem dX11_bestTwo_94 : decode cX11_bestTwo 94 = .ok (.iload 4, 2) := by decide +kernel
theorem dX11_bestTwo_96 : decode cX11_bestTwo 96 = .ok (.aload_n 0, 1) := by decide +kernel
theorem dX11_bestTwo_97 : decode cX11_bestTwo 97 = .ok (.getfield 14, 3) := by decide +kernel
theorem dX11_bestTwo_100 : decode cX11_bestTwo 100 = .ok (.getfield 152, 3) := by decide +kernel
theorem dX11_bestTwo_103 : decode cX11_bestTwo 103 = .ok (.iload 7, 2) := by decide +kernel
theorem dX11_bestTwo_105 : decode cX11_bestTwo 105 = .ok (.iload 8, 2) := by decide +kernel
theorem dX11_bestTwo_107 : decode cX11_bestTwo 107 = .ok (.invokevirtual 194, 3) := by decide +kernel
theorem dX11_bestTwo_110 : decode cX11_bestTwo 110 = .ok (.aload_n 0, 1) := by decide +kernel
theorem dX11_bestTwo_111 : decode cX11_bestTwo 111 = .ok (.aload_n 0, 1) := by decide +kernel
theorem dX11_bestTwo_112 : decode cX11_bestTwo 112 = .ok (.getfield 56, 3) := by decide +kernel
theorem dX11_bestTwo_115 : decode cX11_bestTwo 115 = .ok (.aload_n 3, 1) := by decide +kernel
theorem dX11_bestTwo_116 : decode cX11_bestTwo 116 = .ok (.iload 4, 2) := by decide +kernel
theorem dX11_bestTwo_118 : decode cX11_bestTwo 118 = .ok (.invokevirtual 226, 3) := by decide +kernel
theorem dX11_bestTwo_121 : decode cX11_bestTwo 121 = .ok (.iconst 1, 1) := by decide +kernel
theorem dX11_bestTwo_122 : decode cX11_bestTwo 122 = .ok (.invokestatic 230, 3) := by decide +kernel
theorem dX11_bestTwo_125 : decode cX11_bestTwo 125 = .ok (.istore 9, 2) := by decide +kernel
theorem dX11_bestTwo_127 : decode cX11_bestTwo 127 = .ok (.iload 6, 2) := by decide +kernel
theorem dX11_bestTwo_129 : decode cX11_bestTwo 129 = .ok (.iload 9, 2) := by decide +kernel
theorem dX11_bestTwo_131 : decode cX11_bestTwo 131 = .ok (.sipush 1000, 3) := by decide +kernel
theorem dX11_bestTwo_134 : decode cX11_bestTwo 134 = .ok (.imul, 1) := by decide +kernel
theorem dX11_bestTwo_135 : decode cX11_bestTwo 135 = .ok (.bipush 10, 2) := by decide +kernel
theorem dX11_bestTwo_137 : decode cX11_bestTwo 137 = .ok (.iload 7, 2) := by decide +kernel
theorem dX11_bestTwo_139 : decode cX11_bestTwo 139 = .ok (.imul, 1) := by decide +kernel
theorem dX11_bestTwo_140 : decode cX11_bestTwo 140 = .ok (.iadd, 1) := by decide +kernel
theorem dX11_bestTwo_141 : decode cX11_bestTwo 141 = .ok (.iload 8, 2) := by decide +kernel
theorem dX11_bestTwo_143 : decode cX11_bestTwo 143 = .ok (.iadd, 1) := by decide +kernel
theorem dX11_bestTwo_144 : decode cX11_bestTwo 144 = .ok (.invokestatic 158, 3) := by decide +kernel
theorem dX11_bestTwo_147 : decode cX11_bestTwo 147 = .ok (.istore 6, 2) := by decide +kernel
theorem dX11_bestTwo_149 : decode cX11_bestTwo 149 = .ok (.iinc 8 1, 3) := by decide +kernel
theorem dX11_bestTwo_152 : decode cX11_bestTwo 152 = .ok (.goto (-83), 3) := by decide +kernel
theorem dX11_bestTwo_155 : decode cX11_bestTwo 155 = .ok (.iinc 7 1, 3) := by decide +kernel
theorem dX11_bestTwo_158 : decode cX11_bestTwo 158 = .ok (.goto (-99), 3) := by decide +kernel
theorem dX11_bestTwo_161 : decode cX11_bestTwo 161 = .ok (.iload 6, 2) := by decide +kernel
theorem dX11_bestTwo_163 : decode cX11_bestTwo 163 = .ok (.iload_n 2, 1) := by decide +kernel
theorem dX11_bestTwo_164 : decode cX11_bestTwo 164 = .ok (.invokestatic 230, 3) := by decide +kernel
theorem dX11_bestTwo_167 : decode cX11_bestTwo 167 = .ok (.ireturn, 1) := by decide +kernel
theorem dX11_goneBy_0 : decode cX11_goneBy 0 = .ok (.aload_n 0, 1) := by decide +kernel
theorem dX11_goneBy_1 : decode cX11_goneBy 1 = .ok (.iload_n 1, 1) := by decide +kernel
theorem dX11_goneBy_2 : decode cX11_goneBy 2 = .ok (.invokevirtual 97, 3) := by decide +kernel
theorem dX11_goneBy_5 : decode cX11_goneBy 5 = .ok (.ifCond .ne 9, 3) := by decide +kernel
theorem dX11_goneBy_8 : decode cX11_goneBy 8 = .ok (.aload_n 0, 1) := by decide +kernel
theorem dX11_goneBy_9 : decode cX11_goneBy 9 = .ok (.iconst 1, 1) := by decide +kernel
theorem dX11_goneBy_10 : decode cX11_goneBy 10 = .ok (.invokevirtual 82, 3) := by decide +kernel
theorem dX11_goneBy_13 : decode cX11_goneBy 13 = .ok (.ireturn, 1) := by decide +kernel
theorem dX11_goneBy_14 : decode cX11_goneBy 14 = .ok (.aload_n 0, 1) := by decide +kernel
theorem dX11_goneBy_15 : decode cX11_goneBy 15 = .ok (.getfield 14, 3) := by decide +kernel
theorem dX11_goneBy_18 : decode cX11_goneBy 18 = .ok (.getfield 86, 3) := by decide +kernel
theorem dX11_goneBy_21 : decode cX11_goneBy 21 = .ok (.getfield 101, 3) := by decide +kernel
theorem dX11_goneBy_24 : decode cX11_goneBy 24 = .ok (.iload_n 1, 1) := by decide +kernel
theorem dX11_goneBy_25 : decode cX11_goneBy 25 = .ok (.iaload, 1) := by decide +kernel
theorem dX11_goneBy_26 : decode cX11_goneBy 26 = .ok (.aload_n 0, 1) := by decide +kernel
theorem dX11_goneBy_27 : decode cX11_goneBy 27 = .ok (.getfield 14, 3) := by decide +kernel
theorem dX11_goneBy_30 : decode cX11_goneBy 30 = .ok (.getfield 86, 3) := by decide +kernel
theorem dX11_goneBy_33 : decode cX11_goneBy 33 = .ok (.getfield 104, 3) := by decide +kernel
theorem dX11_goneBy_36 : decode cX11_goneBy 36 = .ok (.iload_n 1, 1) := by decide +kernel
theorem dX11_goneBy_37 : decode cX11_goneBy 37 = .ok (.iaload, 1) := by decide +kernel
theorem dX11_goneBy_38 : decode cX11_goneBy 38 = .ok (.invokestatic 240, 3) := by decide +kernel
theorem dX11_goneBy_41 : decode cX11_goneBy 41 = .ok (.istore_n 2, 1) := by decide +kernel
theorem dX11_goneBy_42 : decode cX11_goneBy 42 = .ok (.iload_n 2, 1) := by decide +kernel
theorem dX11_goneBy_43 : decode cX11_goneBy 43 = .ok (.bipush 30, 2) := by decide +kernel
theorem dX11_goneBy_45 : decode cX11_goneBy 45 = .ok (.if_icmp .gt 7, 3) := by decide +kernel
theorem dX11_goneBy_48 : decode cX11_goneBy 48 = .ok (.iload_n 2, 1) := by decide +kernel
theorem dX11_goneBy_49 : decode cX11_goneBy 49 = .ok (.goto 8, 3) := by decide +kernel
theorem dX11_goneBy_52 : decode cX11_goneBy 52 = .ok (.aload_n 0, 1) := by decide +kernel
theorem dX11_goneBy_53 : decode cX11_goneBy 53 = .ok (.iconst 2, 1) := by decide +kernel
theorem dX11_goneBy_54 : decode cX11_goneBy 54 = .ok (.invokevirtual 82, 3) := by decide +kernel
theorem dX11_goneBy_57 : decode cX11_goneBy 57 = .ok (.ireturn, 1) := by decide +kernel
theorem dX11_never_0 : decode cX11_never 0 = .ok (.iconst 0, 1) := by decide +kernel
theorem dX11_never_1 : decode cX11_never 1 = .ok (.istore_n 1, 1) := by decide +kernel
theorem dX11_never_2 : decode cX11_never 2 = .ok (.aload_n 0, 1) := by decide +kernel
theorem dX11_never_3 : decode cX11_never 3 = .ok (.getfield 14, 3) := by decide +kernel
theorem dX11_never_6 : decode cX11_never 6 = .ok (.getfield 86, 3) := by decide +kernel
theorem dX11_never_9 : decode cX11_never 9 = .ok (.invokevirtual 93, 3) := by decide +kernel
theorem dX11_never_12 : decode cX11_never 12 = .ok (.istore_n 2, 1) := by decide +kernel
theorem dX11_never_13 : decode cX11_never 13 = .ok (.iconst 0, 1) := by decide +kernel
theorem dX11_never_14 : decode cX11_never 14 = .ok (.istore_n 3, 1) := by decide +kernel
theorem dX11_never_15 : decode cX11_never 15 = .ok (.iload_n 3, 1) := by decide +kernel
theorem dX11_never_16 : decode cX11_never 16 = .ok (.iload_n 2, 1) := by decide +kernel
theorem dX11_never_17 : decode cX11_never 17 = .ok (.if_icmp .ge 44, 3) := by decide +kernel
theorem dX11_never_20 : decode cX11_never 20 = .ok (.aload_n 0, 1) := by decide +kernel
theorem dX11_never_21 : decode cX11_never 21 = .ok (.getfield 14, 3) := by decide +kernel
theorem dX11_never_24 : decode cX11_never 24 = .ok (.getfield 86, 3) := by decide +kernel
theorem dX11_never_27 : decode cX11_never 27 = .ok (.getfield 101, 3) := by decide +kernel
theorem dX11_never_30 : decode cX11_never 30 = .ok (.iload_n 3, 1) := by decide +kernel
theorem dX11_never_31 : decode cX11_never 31 = .ok (.iaload, 1) := by decide +kernel
theorem dX11_never_32 : decode cX11_never 32 = .ok (.aload_n 0, 1) := by decide +kernel
theorem dX11_never_33 : decode cX11_never 33 = .ok (.getfield 14, 3) := by decide +kernel
theorem dX11_never_36 : decode cX11_never 36 = .ok (.getfield 86, 3) := by decide +kernel
theorem dX11_never_39 : decode cX11_never 39 = .ok (.getfield 104, 3) := by decide +kernel
theorem dX11_never_42 : decode cX11_never 42 = .ok (.iload_n 3, 1) := by decide +kernel
theorem dX11_never_43 : decode cX11_never 43 = .ok (.iaload, 1) := by decide +kernel
theorem dX11_never_44 : decode cX11_never 44 = .ok (.invokestatic 240, 3) := by decide +kernel
theorem dX11_never_47 : decode cX11_never 47 = .ok (.bipush 30, 2) := by decide +kernel
theorem dX11_never_49 : decode cX11_never 49 = .ok (.if_icmp .le 6, 3) := by decide +kernel
theorem dX11_never_52 : decode cX11_never 52 = .ok (.iinc 1 1, 3) := by decide +kernel
theorem dX11_never_55 : decode cX11_never 55 = .ok (.iinc 3 1, 3) := by decide +kernel
theorem dX11_never_58 : decode cX11_never 58 = .ok (.goto (-43), 3) := by decide +kernel
theorem dX11_never_61 : decode cX11_never 61 = .ok (.iload_n 1, 1) := by decide +kernel
theorem dX11_never_62 : decode cX11_never 62 = .ok (.ireturn, 1) := by decide +kernel
theorem dX11_needs_0 : decode cX11_needs 0 = .ok (.aload_n 0, 1) := by decide +kernel
theorem dX11_needs_1 : decode cX11_needs 1 = .ok (.iload_n 1, 1) := by decide +kernel
theorem dX11_needs_2 : decode cX11_needs 2 = .ok (.invokevirtual 97, 3) := by decide +kernel
theorem dX11_needs_5 : decode cX11_needs 5 = .ok (.ifCond .eq 13, 3) := by decide +kernel
theorem dX11_needs_8 : decode cX11_needs 8 = .ok (.iload_n 2, 1) := by decide +kernel
theorem dX11_needs_9 : decode cX11_needs 9 = .ok (.iconst 0, 1) := by decide +kernel
theorem dX11_needs_10 : decode cX11_needs 10 = .ok (.bipush 30, 2) := by decide +kernel
theorem dX11_needs_12 : decode cX11_needs 12 = .ok (.invokestatic 78, 3) := by decide +kernel
theorem dX11_needs_15 : decode cX11_needs 15 = .ok (.ifCond .ne 9, 3) := by decide +kernel
theorem dX11_needs_18 : decode cX11_needs 18 = .ok (.aload_n 0, 1) := by decide +kernel
theorem dX11_needs_19 : decode cX11_needs 19 = .ok (.iconst 1, 1) := by decide +kernel
theorem dX11_needs_20 : decode cX11_needs 20 = .ok (.invokevirtual 82, 3) := by decide +kernel
theorem dX11_needs_23 : decode cX11_needs 23 = .ok (.ireturn, 1) := by decide +kernel
theorem dX11_needs_24 : decode cX11_needs 24 = .ok (.iconst 0, 1) := by decide +kernel
theorem dX11_needs_25 : decode cX11_needs 25 = .ok (.istore_n 3, 1) := by decide +kernel
theorem dX11_needs_26 : decode cX11_needs 26 = .ok (.iload_n 3, 1) := by decide +kernel
theorem dX11_needs_27 : decode cX11_needs 27 = .ok (.bipush 9, 2) := by decide +kernel
theorem dX11_needs_29 : decode cX11_needs 29 = .ok (.if_icmp .gt 31, 3) := by decide +kernel
theorem dX11_needs_32 : decode cX11_needs 32 = .ok (.aload_n 0, 1) := by decide +kernel
theorem dX11_needs_33 : decode cX11_needs 33 = .ok (.getfield 14, 3) := by decide +kernel
theorem dX11_needs_36 : decode cX11_needs 36 = .ok (.getfield 86, 3) := by decide +kernel
theorem dX11_needs_39 : decode cX11_needs 39 = .ok (.getfield 101, 3) := by decide +kernel
theorem dX11_needs_42 : decode cX11_needs 42 = .ok (.iload_n 1, 1) := by decide +kernel
theorem dX11_needs_43 : decode cX11_needs 43 = .ok (.iaload, 1) := by decide +kernel
theorem dX11_needs_44 : decode cX11_needs 44 = .ok (.iload_n 3, 1) := by decide +kernel
theorem dX11_needs_45 : decode cX11_needs 45 = .ok (.invokestatic 240, 3) := by decide +kernel
theorem dX11_needs_48 : decode cX11_needs 48 = .ok (.iload_n 2, 1) := by decide +kernel
theorem dX11_needs_49 : decode cX11_needs 49 = .ok (.if_icmp .gt 5, 3) := by decide +kernel
theorem dX11_needs_52 : decode cX11_needs 52 = .ok (.iload_n 3, 1) := by decide +kernel
theorem dX11_needs_53 : decode cX11_needs 53 = .ok (.ireturn, 1) := by decide +kernel
theorem dX11_needs_54 : decode cX11_needs 54 = .ok (.iinc 3 1, 3) := by decide +kernel
theorem dX11_needs_57 : decode cX11_needs 57 = .ok (.goto (-31), 3) := by decide +kernel
theorem dX11_needs_60 : decode cX11_needs 60 = .ok (.aload_n 0, 1) := by decide +kernel
theorem dX11_needs_61 : decode cX11_needs 61 = .ok (.iconst 2, 1) := by decide +kernel
theorem dX11_needs_62 : decode cX11_needs 62 = .ok (.invokevirtual 82, 3) := by decide +kernel
theorem dX11_needs_65 : decode cX11_needs 65 = .ok (.ireturn, 1) := by decide +kernel
theorem dX11_lamp_0 : decode cX11_lamp 0 = .ok (.iload_n 1, 1) := by decide +kernel
theorem dX11_lamp_1 : decode cX11_lamp 1 = .ok (.invokestatic 126, 3) := by decide +kernel
theorem dX11_lamp_4 : decode cX11_lamp 4 = .ok (.ifCond .ne 9, 3) := by decide +kernel
theorem dX11_lamp_7 : decode cX11_lamp 7 = .ok (.aload_n 0, 1) := by decide +kernel
theorem dX11_lamp_8 : decode cX11_lamp 8 = .ok (.iconst 1, 1) := by decide +kernel
theorem dX11_lamp_9 : decode cX11_lamp 9 = .ok (.invokevirtual 82, 3) := by decide +kernel
theorem dX11_lamp_12 : decode cX11_lamp 12 = .ok (.ireturn, 1) := by decide +kernel
theorem dX11_lamp_13 : decode cX11_lamp 13 = .ok (.iconst 0, 1) := by decide +kernel
theorem dX11_lamp_14 : decode cX11_lamp 14 = .ok (.istore_n 2, 1) := by decide +kernel
theorem dX11_lamp_15 : decode cX11_lamp 15 = .ok (.aload_n 0, 1) := by decide +kernel
theorem dX11_lamp_16 : decode cX11_lamp 16 = .ok (.getfield 14, 3) := by decide +kernel
theorem dX11_lamp_19 : decode cX11_lamp 19 = .ok (.getfield 86, 3) := by decide +kernel
theorem dX11_lamp_22 : decode cX11_lamp 22 = .ok (.invokevirtual 93, 3) := by decide +kernel
theorem dX11_lamp_25 : decode cX11_lamp 25 = .ok (.istore_n 3, 1) := by decide +kernel
theorem dX11_lamp_26 : decode cX11_lamp 26 = .ok (.iconst 0, 1) := by decide +kernel
theorem dX11_lamp_27 : decode cX11_lamp 27 = .ok (.istore 4, 2) := by decide +kernel
theorem dX11_lamp_29 : decode cX11_lamp 29 = .ok (.iload 4, 2) := by decide +kernel
theorem dX11_lamp_31 : decode cX11_lamp 31 = .ok (.iload_n 3, 1) := by decide +kernel
theorem dX11_lamp_32 : decode cX11_lamp 32 = .ok (.if_icmp .ge 28, 3) := by decide +kernel
theorem dX11_lamp_35 : decode cX11_lamp 35 = .ok (.aload_n 0, 1) := by decide +kernel
theorem dX11_lamp_36 : decode cX11_lamp 36 = .ok (.getfield 14, 3) := by decide +kernel
theorem dX11_lamp_39 : decode cX11_lamp 39 = .ok (.getfield 86, 3) := by decide +kernel
theorem dX11_lamp_42 : decode cX11_lamp 42 = .ok (.iload 4, 2) := by decide +kernel
theorem dX11_lamp_44 : decode cX11_lamp 44 = .ok (.iload_n 1, 1) := by decide +kernel
theorem dX11_lamp_45 : decode cX11_lamp 45 = .ok (.invokevirtual 243, 3) := by decide +kernel
theorem dX11_lamp_48 : decode cX11_lamp 48 = .ok (.ifCond .eq 6, 3) := by decide +kernel
theorem dX11_lamp_51 : decode cX11_lamp 51 = .ok (.iinc 2 1, 3) := by decide +kernel
theorem dX11_lamp_54 : decode cX11_lamp 54 = .ok (.iinc 4 1, 3) := by decide +kernel
theorem dX11_lamp_57 : decode cX11_lamp 57 = .ok (.goto (-28), 3) := by decide +kernel
theorem dX11_lamp_60 : decode cX11_lamp 60 = .ok (.iload_n 2, 1) := by decide +kernel
theorem dX11_lamp_61 : decode cX11_lamp 61 = .ok (.ireturn, 1) := by decide +kernel
theorem dX11_came_0 : decode cX11_came 0 = .ok (.aload_n 0, 1) := by decide +kernel
theorem dX11_came_1 : decode cX11_came 1 = .ok (.iload_n 1, 1) := by decide +kernel
theorem dX11_came_2 : decode cX11_came 2 = .ok (.invokevirtual 142, 3) := by decide +kernel
theorem dX11_came_5 : decode cX11_came 5 = .ok (.ifCond .eq 26, 3) := by decide +kernel
theorem dX11_came_8 : decode cX11_came 8 = .ok (.aload_n 0, 1) := by decide +kernel
theorem dX11_came_9 : decode cX11_came 9 = .ok (.iload_n 2, 1) := by decide +kernel
theorem dX11_came_10 : decode cX11_came 10 = .ok (.invokevirtual 97, 3) := by decide +kernel
theorem dX11_came_13 : decode cX11_came 13 = .ok (.ifCond .eq 18, 3) := by decide +kernel
theorem dX11_came_16 : decode cX11_came 16 = .ok (.iload_n 3, 1) := by decide +kernel
theorem dX11_came_17 : decode cX11_came 17 = .ok (.invokestatic 126, 3) := by decide +kernel
theorem dX11_came_20 : decode cX11_came 20 = .ok (.ifCond .eq 11, 3) := by decide +kernel
theorem dX11_came_23 : decode cX11_came 23 = .ok (.iload 4, 2) := by decide +kernel
theorem dX11_came_25 : decode cX11_came 25 = .ok (.invokestatic 247, 3) := by decide +kernel
theorem dX11_came_28 : decode cX11_came 28 = .ok (.ifCond .ne 9, 3) := by decide +kernel
theorem dX11_came_31 : decode cX11_came 31 = .ok (.aload_n 0, 1) := by decide +kernel
theorem dX11_came_32 : decode cX11_came 32 = .ok (.iconst 1, 1) := by decide +kernel
theorem dX11_came_33 : decode cX11_came 33 = .ok (.invokevirtual 82, 3) := by decide +kernel
theorem dX11_came_36 : decode cX11_came 36 = .ok (.ireturn, 1) := by decide +kernel
theorem dX11_came_37 : decode cX11_came 37 = .ok (.aload_n 0, 1) := by decide +kernel
theorem dX11_came_38 : decode cX11_came 38 = .ok (.iload 4, 2) := by decide +kernel
theorem dX11_came_40 : decode cX11_came 40 = .ok (.invokevirtual 250, 3) := by decide +kernel
theorem dX11_came_43 : decode cX11_came 43 = .ok (.ifCond .eq 9, 3) := by decide +kernel
theorem dX11_came_46 : decode cX11_came 46 = .ok (.aload_n 0, 1) := by decide +kernel
theorem dX11_came_47 : decode cX11_came 47 = .ok (.iconst 2, 1) := by decide +kernel
theorem dX11_came_48 : decode cX11_came 48 = .ok (.invokevirtual 82, 3) := by decide +kernel
theorem dX11_came_51 : decode cX11_came 51 = .ok (.ireturn, 1) := by decide +kernel
theorem dX11_came_52 : decode cX11_came 52 = .ok (.iconst 0, 1) := by decide +kernel
theorem dX11_came_53 : decode cX11_came 53 = .ok (.istore 5, 2) := by decide +kernel
theorem dX11_came_55 : decode cX11_came 55 = .ok (.iload 5, 2) := by decide +kernel
theorem dX11_came_57 : decode cX11_came 57 = .ok (.bipush 7, 2) := by decide +kernel
theorem dX11_came_59 : decode cX11_came 59 = .ok (.if_icmp .ge 70, 3) := by decide +kernel
theorem dX11_came_62 : decode cX11_came 62 = .ok (.aload_n 0, 1) := by decide +kernel
theorem dX11_came_63 : decode cX11_came 63 = .ok (.getfield 56, 3) := by decide +kernel
theorem dX11_came_66 : decode cX11_came 66 = .ok (.aload_n 0, 1) := by decide +kernel
theorem dX11_came_67 : decode cX11_came 67 = .ok (.getfield 14, 3) := by decide +kernel
theorem dX11_came_70 : decode cX11_came 70 = .ok (.getfield 86, 3) := by decide +kernel
theorem dX11_came_73 : decode cX11_came 73 = .ok (.invokevirtual 236, 3) := by decide +kernel
theorem dX11_came_76 : decode cX11_came 76 = .ok (.aload_n 0, 1) := by decide +kernel
theorem dX11_came_77 : decode cX11_came 77 = .ok (.getfield 56, 3) := by decide +kernel
theorem dX11_came_80 : decode cX11_came 80 = .ok (.aload_n 0, 1) := by decide +kernel
theorem dX11_came_81 : decode cX11_came 81 = .ok (.iload 5, 2) := by decide +kernel
theorem dX11_came_83 : decode cX11_came 83 = .ok (.invokevirtual 253, 3) := by decide +kernel
theorem dX11_came_86 : decode cX11_came 86 = .ok (.aload_n 0, 1) := by decide +kernel
theorem dX11_came_87 : decode cX11_came 87 = .ok (.getfield 14, 3) := by decide +kernel
theorem dX11_came_90 : decode cX11_came 90 = .ok (.getfield 139, 3) := by decide +kernel
theorem dX11_came_93 : decode cX11_came 93 = .ok (.iload_n 1, 1) := by decide +kernel
theorem dX11_came_94 : decode cX11_came 94 = .ok (.iaload, 1) := by decide +kernel
theorem dX11_came_95 : decode cX11_came 95 = .ok (.aload_n 0, 1) := by decide +kernel
theorem dX11_came_96 : decode cX11_came 96 = .ok (.getfield 14, 3) := by decide +kernel
theorem dX11_came_99 : decode cX11_came 99 = .ok (.getfield 152, 3) := by decide +kernel
theorem dX11_came_102 : decode cX11_came 102 = .ok (.iload_n 2, 1) := by decide +kernel
theorem dX11_came_103 : decode cX11_came 103 = .ok (.iload_n 3, 1) := by decide +kernel
theorem dX11_came_104 : decode cX11_came 104 = .ok (.invokevirtual 194, 3) := by decide +kernel
theorem dX11_came_107 : decode cX11_came 107 = .ok (.aload_n 0, 1) := by decide +kernel
theorem dX11_came_108 : decode cX11_came 108 = .ok (.iload 4, 2) := by decide +kernel
theorem dX11_came_110 : decode cX11_came 110 = .ok (.aload_n 0, 1) := by decide +kernel
theorem dX11_came_111 : decode cX11_came 111 = .ok (.getfield 56, 3) := by decide +kernel
theorem dX11_came_114 : decode cX11_came 114 = .ok (.invokevirtual 256, 3) := by decide +kernel
theorem dX11_came_117 : decode cX11_came 117 = .ok (.ifCond .ge 6, 3) := by decide +kernel
theorem dX11_came_120 : decode cX11_came 120 = .ok (.iload 5, 2) := by decide +kernel
theorem dX11_came_122 : decode cX11_came 122 = .ok (.ireturn, 1) := by decide +kernel
theorem dX11_came_123 : decode cX11_came 123 = .ok (.iinc 5 1, 3) := by decide +kernel
theorem dX11_came_126 : decode cX11_came 126 = .ok (.goto (-71), 3) := by decide +kernel
theorem dX11_came_129 : decode cX11_came 129 = .ok (.aload_n 0, 1) := by decide +kernel
theorem dX11_came_130 : decode cX11_came 130 = .ok (.iconst 2, 1) := by decide +kernel
theorem dX11_came_131 : decode cX11_came 131 = .ok (.invokevirtual 82, 3) := by decide +kernel
theorem dX11_came_134 : decode cX11_came 134 = .ok (.ireturn, 1) := by decide +kernel
theorem dX11_odds_0 : decode cX11_odds 0 = .ok (.aload_n 0, 1) := by decide +kernel
theorem dX11_odds_1 : decode cX11_odds 1 = .ok (.iload_n 1, 1) := by decide +kernel
theorem dX11_odds_2 : decode cX11_odds 2 = .ok (.invokevirtual 142, 3) := by decide +kernel
theorem dX11_odds_5 : decode cX11_odds 5 = .ok (.ifCond .eq 32, 3) := by decide +kernel
theorem dX11_odds_8 : decode cX11_odds 8 = .ok (.aload_n 0, 1) := by decide +kernel
theorem dX11_odds_9 : decode cX11_odds 9 = .ok (.iload_n 2, 1) := by decide +kernel
theorem dX11_odds_10 : decode cX11_odds 10 = .ok (.invokevirtual 97, 3) := by decide +kernel
theorem dX11_odds_13 : decode cX11_odds 13 = .ok (.ifCond .eq 24, 3) := by decide +kernel
theorem dX11_odds_16 : decode cX11_odds 16 = .ok (.iload_n 3, 1) := by decide +kernel
theorem dX11_odds_17 : decode cX11_odds 17 = .ok (.iconst 0, 1) := by decide +kernel
theorem dX11_odds_18 : decode cX11_odds 18 = .ok (.sipush 9999, 3) := by decide +kernel
theorem dX11_odds_21 : decode cX11_odds 21 = .ok (.invokestatic 78, 3) := by decide +kernel
theorem dX11_odds_24 : decode cX11_odds 24 = .ok (.ifCond .eq 13, 3) := by decide +kernel
theorem dX11_odds_27 : decode cX11_odds 27 = .ok (.iload 4, 2) := by decide +kernel
theorem dX11_odds_29 : decode cX11_odds 29 = .ok (.iconst 0, 1) := by decide +kernel
theorem dX11_odds_30 : decode cX11_odds 30 = .ok (.iconst 1, 1) := by decide +kernel
theorem dX11_odds_31 : decode cX11_odds 31 = .ok (.invokestatic 78, 3) := by decide +kernel
theorem dX11_odds_34 : decode cX11_odds 34 = .ok (.ifCond .ne 9, 3) := by decide +kernel
theorem dX11_odds_37 : decode cX11_odds 37 = .ok (.aload_n 0, 1) := by decide +kernel
theorem dX11_odds_38 : decode cX11_odds 38 = .ok (.iconst 1, 1) := by decide +kernel
theorem dX11_odds_39 : decode cX11_odds 39 = .ok (.invokevirtual 82, 3) := by decide +kernel
theorem dX11_odds_42 : decode cX11_odds 42 = .ok (.ireturn, 1) := by decide +kernel
theorem dX11_odds_43 : decode cX11_odds 43 = .ok (.iconst 0, 1) := by decide +kernel
theorem dX11_odds_44 : decode cX11_odds 44 = .ok (.istore 5, 2) := by decide +kernel
theorem dX11_odds_46 : decode cX11_odds 46 = .ok (.iconst 0, 1) := by decide +kernel
theorem dX11_odds_47 : decode cX11_odds 47 = .ok (.istore 6, 2) := by decide +kernel
theorem dX11_odds_49 : decode cX11_odds 49 = .ok (.iload 6, 2) := by decide +kernel
theorem dX11_odds_51 : decode cX11_odds 51 = .ok (.iconst 4, 1) := by decide +kernel
theorem dX11_odds_52 : decode cX11_odds 52 = .ok (.if_icmp .ge 75, 3) := by decide +kernel
theorem dX11_odds_55 : decode cX11_odds 55 = .ok (.aload_n 0, 1) := by decide +kernel
theorem dX11_odds_56 : decode cX11_odds 56 = .ok (.getfield 56, 3) := by decide +kernel
theorem dX11_odds_59 : decode cX11_odds 59 = .ok (.aload_n 0, 1) := by decide +kernel
theorem dX11_odds_60 : decode cX11_odds 60 = .ok (.getfield 14, 3) := by decide +kernel
theorem dX11_odds_63 : decode cX11_odds 63 = .ok (.getfield 86, 3) := by decide +kernel
theorem dX11_odds_66 : decode cX11_odds 66 = .ok (.invokevirtual 236, 3) := by decide +kernel
theorem dX11_odds_69 : decode cX11_odds 69 = .ok (.aload_n 0, 1) := by decide +kernel
theorem dX11_odds_70 : decode cX11_odds 70 = .ok (.getfield 56, 3) := by decide +kernel
theorem dX11_odds_73 : decode cX11_odds 73 = .ok (.aload_n 0, 1) := by decide +kernel
theorem dX11_odds_74 : decode cX11_odds 74 = .ok (.iload_n 1, 1) := by decide +kernel
theorem dX11_odds_75 : decode cX11_odds 75 = .ok (.invokevirtual 145, 3) := by decide +kernel
theorem dX11_odds_78 : decode cX11_odds 78 = .ok (.aload_n 0, 1) := by decide +kernel
theorem dX11_odds_79 : decode cX11_odds 79 = .ok (.getfield 14, 3) := by decide +kernel
theorem dX11_odds_82 : decode cX11_odds 82 = .ok (.getfield 139, 3) := by decide +kernel
theorem dX11_odds_85 : decode cX11_odds 85 = .ok (.iload_n 1, 1) := by decide +kernel
theorem dX11_odds_86 : decode cX11_odds 86 = .ok (.iaload, 1) := by decide +kernel
theorem dX11_odds_87 : decode cX11_odds 87 = .ok (.aload_n 0, 1) := by decide +kernel
theorem dX11_odds_88 : decode cX11_odds 88 = .ok (.getfield 14, 3) := by decide +kernel
theorem dX11_odds_91 : decode cX11_odds 91 = .ok (.getfield 152, 3) := by decide +kernel
theorem dX11_odds_94 : decode cX11_odds 94 = .ok (.iload_n 2, 1) := by decide +kernel
theorem dX11_odds_95 : decode cX11_odds 95 = .ok (.iload 6, 2) := by decide +kernel
theorem dX11_odds_97 : decode cX11_odds 97 = .ok (.invokevirtual 194, 3) := by decide +kernel
theorem dX11_odds_100 : decode cX11_odds 100 = .ok (.aload_n 0, 1) := by decide +kernel
theorem dX11_odds_101 : decode cX11_odds 101 = .ok (.getfield 56, 3) := by decide +kernel
theorem dX11_odds_104 : decode cX11_odds 104 = .ok (.aload_n 0, 1) := by decide +kernel
theorem dX11_odds_105 : decode cX11_odds 105 = .ok (.getfield 14, 3) := by decide +kernel
theorem dX11_odds_108 : decode cX11_odds 108 = .ok (.getfield 107, 3) := by decide +kernel
theorem dX11_odds_111 : decode cX11_odds 111 = .ok (.invokevirtual 210, 3) := by decide +kernel
theorem dX11_odds_114 : decode cX11_odds 114 = .ok (.iload_n 3, 1) := by decide +kernel
theorem dX11_odds_115 : decode cX11_odds 115 = .ok (.if_icmp .gt 6, 3) := by decide +kernel
theorem dX11_odds_118 : decode cX11_odds 118 = .ok (.iinc 5 1, 3) := by decide +kernel
theorem dX11_odds_121 : decode cX11_odds 121 = .ok (.iinc 6 1, 3) := by decide +kernel
theorem dX11_odds_124 : decode cX11_odds 124 = .ok (.goto (-75), 3) := by decide +kernel
theorem dX11_odds_127 : decode cX11_odds 127 = .ok (.iconst 4, 1) := by decide +kernel
theorem dX11_odds_128 : decode cX11_odds 128 = .ok (.istore 6, 2) := by decide +kernel
theorem dX11_odds_130 : decode cX11_odds 130 = .ok (.iconst 0, 1) := by decide +kernel
theorem dX11_odds_131 : decode cX11_odds 131 = .ok (.istore 7, 2) := by decide +kernel
theorem dX11_odds_133 : decode cX11_odds 133 = .ok (.iload 7, 2) := by decide +kernel
theorem dX11_odds_135 : decode cX11_odds 135 = .ok (.iconst 4, 1) := by decide +kernel
theorem dX11_odds_136 : decode cX11_odds 136 = .ok (.if_icmp .ge 35, 3) := by decide +kernel
theorem dX11_odds_139 : decode cX11_odds 139 = .ok (.iload 5, 2) := by decide +kernel
theorem dX11_odds_141 : decode cX11_odds 141 = .ok (.iconst 2, 1) := by decide +kernel
theorem dX11_odds_142 : decode cX11_odds 142 = .ok (.irem, 1) := by decide +kernel
theorem dX11_odds_143 : decode cX11_odds 143 = .ok (.ifCond .ne 28, 3) := by decide +kernel
theorem dX11_odds_146 : decode cX11_odds 146 = .ok (.iload 6, 2) := by decide +kernel
theorem dX11_odds_148 : decode cX11_odds 148 = .ok (.iconst 2, 1) := by decide +kernel
theorem dX11_odds_149 : decode cX11_odds 149 = .ok (.irem, 1) := by decide +kernel
theorem dX11_odds_150 : decode cX11_odds 150 = .ok (.ifCond .ne 21, 3) := by decide +kernel
theorem dX11_odds_153 : decode cX11_odds 153 = .ok (.iload 5, 2) := by decide +kernel
theorem dX11_odds_155 : decode cX11_odds 155 = .ok (.iconst 2, 1) := by decide +kernel
theorem dX11_odds_156 : decode cX11_odds 156 = .ok (.idiv, 1) := by decide +kernel
theorem dX11_odds_157 : decode cX11_odds 157 = .ok (.istore 5, 2) := by decide +kernel
theorem dX11_odds_159 : decode cX11_odds 159 = .ok (.iload 6, 2) := by decide +kernel
theorem dX11_odds_161 : decode cX11_odds 161 = .ok (.iconst 2, 1) := by decide +kernel
theorem dX11_odds_162 : decode cX11_odds 162 = .ok (.idiv, 1) := by decide +kernel
theorem dX11_odds_163 : decode cX11_odds 163 = .ok (.istore 6, 2) := by decide +kernel
theorem dX11_odds_165 : decode cX11_odds 165 = .ok (.iinc 7 1, 3) := by decide +kernel
theorem dX11_odds_168 : decode cX11_odds 168 = .ok (.goto (-35), 3) := by decide +kernel
theorem dX11_odds_171 : decode cX11_odds 171 = .ok (.iload 4, 2) := by decide +kernel
theorem dX11_odds_173 : decode cX11_odds 173 = .ok (.ifCond .ne 8, 3) := by decide +kernel
theorem dX11_odds_176 : decode cX11_odds 176 = .ok (.iload 5, 2) := by decide +kernel
theorem dX11_odds_178 : decode cX11_odds 178 = .ok (.goto 5, 3) := by decide +kernel
theorem dX11_odds_181 : decode cX11_odds 181 = .ok (.iload 6, 2) := by decide +kernel
theorem dX11_odds_183 : decode cX11_odds 183 = .ok (.ireturn, 1) := by decide +kernel
theorem dX11_seed_0 : decode cX11_seed 0 = .ok (.aload_n 0, 1) := by decide +kernel
theorem dX11_seed_1 : decode cX11_seed 1 = .ok (.getfield 14, 3) := by decide +kernel
theorem dX11_seed_4 : decode cX11_seed 4 = .ok (.getfield 260, 3) := by decide +kernel
theorem dX11_seed_7 : decode cX11_seed 7 = .ok (.istore_n 2, 1) := by decide +kernel
theorem dX11_seed_8 : decode cX11_seed 8 = .ok (.aload_n 0, 1) := by decide +kernel
theorem dX11_seed_9 : decode cX11_seed 9 = .ok (.getfield 14, 3) := by decide +kernel
theorem dX11_seed_12 : decode cX11_seed 12 = .ok (.iload_n 1, 1) := by decide +kernel
theorem dX11_seed_13 : decode cX11_seed 13 = .ok (.putfield 260, 3) := by decide +kernel
theorem dX11_seed_16 : decode cX11_seed 16 = .ok (.iload_n 2, 1) := by decide +kernel
theorem dX11_seed_17 : decode cX11_seed 17 = .ok (.ireturn, 1) := by decide +kernel
theorem dX11_voice_0 : decode cX11_voice 0 = .ok (.aload_n 0, 1) := by decide +kernel
theorem dX11_voice_1 : decode cX11_voice 1 = .ok (.iload_n 1, 1) := by decide +kernel
theorem dX11_voice_2 : decode cX11_voice 2 = .ok (.invokevirtual 142, 3) := by decide +kernel
theorem dX11_voice_5 : decode cX11_voice 5 = .ok (.ifCond .eq 12, 3) := by decide +kernel
theorem dX11_voice_8 : decode cX11_voice 8 = .ok (.iload_n 2, 1) := by decide +kernel
theorem dX11_voice_9 : decode cX11_voice 9 = .ok (.iconst 0, 1) := by decide +kernel
theorem dX11_voice_10 : decode cX11_voice 10 = .ok (.iconst 3, 1) := by decide +kernel
theorem dX11_voice_11 : decode cX11_voice 11 = .ok (.invokestatic 78, 3) := by decide +kernel
theorem dX11_voice_14 : decode cX11_voice 14 = .ok (.ifCond .ne 9, 3) := by decide +kernel
theorem dX11_voice_17 : decode cX11_voice 17 = .ok (.aload_n 0, 1) := by decide +kernel
theorem dX11_voice_18 : decode cX11_voice 18 = .ok (.iconst 1, 1) := by decide +kernel
theorem dX11_voice_19 : decode cX11_voice 19 = .ok (.invokevirtual 82, 3) := by decide +kernel
theorem dX11_voice_22 : decode cX11_voice 22 = .ok (.ireturn, 1) := by decide +kernel
theorem dX11_voice_23 : decode cX11_voice 23 = .ok (.aload_n 0, 1) := by decide +kernel
theorem dX11_voice_24 : decode cX11_voice 24 = .ok (.getfield 49, 3) := by decide +kernel
theorem dX11_voice_27 : decode cX11_voice 27 = .ok (.iload_n 1, 1) := by decide +kernel
theorem dX11_voice_28 : decode cX11_voice 28 = .ok (.aload_n 0, 1) := by decide +kernel
theorem dX11_voice_29 : decode cX11_voice 29 = .ok (.getfield 14, 3) := by decide +kernel
theorem dX11_voice_32 : decode cX11_voice 32 = .ok (.getfield 139, 3) := by decide +kernel
theorem dX11_voice_35 : decode cX11_voice 35 = .ok (.iload_n 1, 1) := by decide +kernel
theorem dX11_voice_36 : decode cX11_voice 36 = .ok (.iaload, 1) := by decide +kernel
theorem dX11_voice_37 : decode cX11_voice 37 = .ok (.invokevirtual 263, 3) := by decide +kernel
theorem dX11_voice_40 : decode cX11_voice 40 = .ok (.aload_n 0, 1) := by decide +kernel
theorem dX11_voice_41 : decode cX11_voice 41 = .ok (.iload_n 1, 1) := by decide +kernel
theorem dX11_voice_42 : decode cX11_voice 42 = .ok (.invokevirtual 145, 3) := by decide +kernel
theorem dX11_voice_45 : decode cX11_voice 45 = .ok (.astore 4, 2) := by decide +kernel
theorem dX11_voice_47 : decode cX11_voice 47 = .ok (.iload_n 2, 1) := by decide +kernel
theorem dX11_voice_48 : decode cX11_voice 48 = .ok (.tableswitch 61 0 2 #[28, 39, 50], 28) := by decide +kernel
theorem dX11_voice_76 : decode cX11_voice 76 = .ok (.aload 4, 2) := by decide +kernel
theorem dX11_voice_78 : decode cX11_voice 78 = .ok (.iload_n 3, 1) := by decide +kernel
theorem dX11_voice_79 : decode cX11_voice 79 = .ok (.aload_n 0, 1) := by decide +kernel
theorem dX11_voice_80 : decode cX11_voice 80 = .ok (.getfield 49, 3) := by decide +kernel
theorem dX11_voice_83 : decode cX11_voice 83 = .ok (.invokevirtual 266, 3) := by decide +kernel
theorem dX11_voice_86 : decode cX11_voice 86 = .ok (.ireturn, 1) := by decide +kernel
theorem dX11_voice_87 : decode cX11_voice 87 = .ok (.aload 4, 2) := by decide +kernel
theorem dX11_voice_89 : decode cX11_voice 89 = .ok (.iload_n 3, 1) := by decide +kernel
theorem dX11_voice_90 : decode cX11_voice 90 = .ok (.aload_n 0, 1) := by decide +kernel
theorem dX11_voice_91 : decode cX11_voice 91 = .ok (.getfield 49, 3) := by decide +kernel
theorem dX11_voice_94 : decode cX11_voice 94 = .ok (.invokevirtual 270, 3) := by decide +kernel
theorem dX11_voice_97 : decode cX11_voice 97 = .ok (.ireturn, 1) := by decide +kernel
theorem dX11_voice_98 : decode cX11_voice 98 = .ok (.aload 4, 2) := by decide +kernel
theorem dX11_voice_100 : decode cX11_voice 100 = .ok (.iload_n 3, 1) := by decide +kernel
theorem dX11_voice_101 : decode cX11_voice 101 = .ok (.aload_n 0, 1) := by decide +kernel
theorem dX11_voice_102 : decode cX11_voice 102 = .ok (.getfield 49, 3) := by decide +kernel
theorem dX11_voice_105 : decode cX11_voice 105 = .ok (.invokevirtual 273, 3) := by decide +kernel
theorem dX11_voice_108 : decode cX11_voice 108 = .ok (.ireturn, 1) := by decide +kernel
theorem dX11_voice_109 : decode cX11_voice 109 = .ok (.aload 4, 2) := by decide +kernel
theorem dX11_voice_111 : decode cX11_voice 111 = .ok (.iload_n 3, 1) := by decide +kernel
theorem dX11_voice_112 : decode cX11_voice 112 = .ok (.aload_n 0, 1) := by decide +kernel
theorem dX11_voice_113 : decode cX11_voice 113 = .ok (.getfield 49, 3) := by decide +kernel
theorem dX11_voice_116 : decode cX11_voice 116 = .ok (.invokevirtual 276, 3) := by decide +kernel
theorem dX11_voice_119 : decode cX11_voice 119 = .ok (.ireturn, 1) := by decide +kernel
theorem dX11_trace_0 : decode cX11_trace 0 = .ok (.iload_n 1, 1) := by decide +kernel
theorem dX11_trace_1 : decode cX11_trace 1 = .ok (.iconst 0, 1) := by decide +kernel
theorem dX11_trace_2 : decode cX11_trace 2 = .ok (.aload_n 0, 1) := by decide +kernel
theorem dX11_trace_3 : decode cX11_trace 3 = .ok (.getfield 49, 3) := by decide +kernel
theorem dX11_trace_6 : decode cX11_trace 6 = .ok (.getfield 279, 3) := by decide +kernel
theorem dX11_trace_9 : decode cX11_trace 9 = .ok (.iconst 1, 1) := by decide +kernel
theorem dX11_trace_10 : decode cX11_trace 10 = .ok (.isub, 1) := by decide +kernel
theorem dX11_trace_11 : decode cX11_trace 11 = .ok (.invokestatic 78, 3) := by decide +kernel
theorem dX11_trace_14 : decode cX11_trace 14 = .ok (.ifCond .eq 21, 3) := by decide +kernel
theorem dX11_trace_17 : decode cX11_trace 17 = .ok (.iload_n 1, 1) := by decide +kernel
theorem dX11_trace_18 : decode cX11_trace 18 = .ok (.bipush 40, 2) := by decide +kernel
theorem dX11_trace_20 : decode cX11_trace 20 = .ok (.if_icmp .ge 15, 3) := by decide +kernel
theorem dX11_trace_23 : decode cX11_trace 23 = .ok (.aload_n 0, 1) := by decide +kernel
theorem dX11_trace_24 : decode cX11_trace 24 = .ok (.getfield 49, 3) := by decide +kernel
theorem dX11_trace_27 : decode cX11_trace 27 = .ok (.getfield 282, 3) := by decide +kernel
theorem dX11_trace_30 : decode cX11_trace 30 = .ok (.iload_n 1, 1) := by decide +kernel
theorem dX11_trace_31 : decode cX11_trace 31 = .ok (.iaload, 1) := by decide +kernel
theorem dX11_trace_32 : decode cX11_trace 32 = .ok (.goto 8, 3) := by decide +kernel
theorem dX11_trace_35 : decode cX11_trace 35 = .ok (.aload_n 0, 1) := by decide +kernel
theorem dX11_trace_36 : decode cX11_trace 36 = .ok (.iconst 2, 1) := by decide +kernel
theorem dX11_trace_37 : decode cX11_trace 37 = .ok (.invokevirtual 82, 3) := by decide +kernel
theorem dX11_trace_40 : decode cX11_trace 40 = .ok (.ireturn, 1) := by decide +kernel
theorem dX11_sheet_0 : decode cX11_sheet 0 = .ok (.iload_n 1, 1) := by decide +kernel
theorem dX11_sheet_1 : decode cX11_sheet 1 = .ok (.invokestatic 247, 3) := by decide +kernel
theorem dX11_sheet_4 : decode cX11_sheet 4 = .ok (.ifCond .eq 25, 3) := by decide +kernel
theorem dX11_sheet_7 : decode cX11_sheet 7 = .ok (.iload_n 2, 1) := by decide +kernel
theorem dX11_sheet_8 : decode cX11_sheet 8 = .ok (.ifCond .eq 27, 3) := by decide +kernel
theorem dX11_sheet_11 : decode cX11_sheet 11 = .ok (.iload_n 2, 1) := by decide +kernel
theorem dX11_sheet_12 : decode cX11_sheet 12 = .ok (.bipush 8, 2) := by decide +kernel
theorem dX11_sheet_14 : decode cX11_sheet 14 = .ok (.if_icmp .eq 21, 3) := by decide +kernel
theorem dX11_sheet_17 : decode cX11_sheet 17 = .ok (.iload_n 2, 1) := by decide +kernel
theorem dX11_sheet_18 : decode cX11_sheet 18 = .ok (.bipush 16, 2) := by decide +kernel
theorem dX11_sheet_20 : decode cX11_sheet 20 = .ok (.if_icmp .eq 15, 3) := by decide +kernel
theorem dX11_sheet_23 : decode cX11_sheet 23 = .ok (.iload_n 2, 1) := by decide +kernel
theorem dX11_sheet_24 : decode cX11_sheet 24 = .ok (.bipush 32, 2) := by decide +kernel
theorem dX11_sheet_26 : decode cX11_sheet 26 = .ok (.if_icmp .eq 9, 3) := by decide +kernel
theorem dX11_sheet_29 : decode cX11_sheet 29 = .ok (.aload_n 0, 1) := by decide +kernel
theorem dX11_sheet_30 : decode cX11_sheet 30 = .ok (.iconst 1, 1) := by decide +kernel
theorem dX11_sheet_31 : decode cX11_sheet 31 = .ok (.invokevirtual 82, 3) := by decide +kernel
theorem dX11_sheet_34 : decode cX11_sheet 34 = .ok (.ireturn, 1) := by decide +kernel
theorem dX11_sheet_35 : decode cX11_sheet 35 = .ok (.iload_n 2, 1) := by decide +kernel
theorem dX11_sheet_36 : decode cX11_sheet 36 = .ok (.ifCond .eq 13, 3) := by decide +kernel
theorem dX11_sheet_39 : decode cX11_sheet 39 = .ok (.iload_n 3, 1) := by decide +kernel
theorem dX11_sheet_40 : decode cX11_sheet 40 = .ok (.ifCond .ge 9, 3) := by decide +kernel
theorem dX11_sheet_43 : decode cX11_sheet 43 = .ok (.aload_n 0, 1) := by decide +kernel
theorem dX11_sheet_44 : decode cX11_sheet 44 = .ok (.iconst 3, 1) := by decide +kernel
theorem dX11_sheet_45 : decode cX11_sheet 45 = .ok (.invokevirtual 82, 3) := by decide +kernel
theorem dX11_sheet_48 : decode cX11_sheet 48 = .ok (.ireturn, 1) := by decide +kernel
theorem dX11_sheet_49 : decode cX11_sheet 49 = .ok (.iload_n 2, 1) := by decide +kernel
theorem dX11_sheet_50 : decode cX11_sheet 50 = .ok (.ifCond .eq 15, 3) := by decide +kernel
theorem dX11_sheet_53 : decode cX11_sheet 53 = .ok (.iload_n 3, 1) := by decide +kernel
theorem dX11_sheet_54 : decode cX11_sheet 54 = .ok (.bipush 40, 2) := by decide +kernel
theorem dX11_sheet_56 : decode cX11_sheet 56 = .ok (.if_icmp .le 9, 3) := by decide +kernel
theorem dX11_sheet_59 : decode cX11_sheet 59 = .ok (.aload_n 0, 1) := by decide +kernel
theorem dX11_sheet_60 : decode cX11_sheet 60 = .ok (.iconst 1, 1) := by decide +kernel
theorem dX11_sheet_61 : decode cX11_sheet 61 = .ok (.invokevirtual 82, 3) := by decide +kernel
theorem dX11_sheet_64 : decode cX11_sheet 64 = .ok (.ireturn, 1) := by decide +kernel
theorem dX11_sheet_65 : decode cX11_sheet 65 = .ok (.aload_n 0, 1) := by decide +kernel
theorem dX11_sheet_66 : decode cX11_sheet 66 = .ok (.getfield 67, 3) := by decide +kernel
theorem dX11_sheet_69 : decode cX11_sheet 69 = .ok (.iload_n 1, 1) := by decide +kernel
theorem dX11_sheet_70 : decode cX11_sheet 70 = .ok (.iload_n 2, 1) := by decide +kernel
theorem dX11_sheet_71 : decode cX11_sheet 71 = .ok (.iastore, 1) := by decide +kernel
theorem dX11_sheet_72 : decode cX11_sheet 72 = .ok (.aload_n 0, 1) := by decide +kernel
theorem dX11_sheet_73 : decode cX11_sheet 73 = .ok (.getfield 70, 3) := by decide +kernel
theorem dX11_sheet_76 : decode cX11_sheet 76 = .ok (.iload_n 1, 1) := by decide +kernel
theorem dX11_sheet_77 : decode cX11_sheet 77 = .ok (.iload_n 2, 1) := by decide +kernel
theorem dX11_sheet_78 : decode cX11_sheet 78 = .ok (.ifCond .ne 7, 3) := by decide +kernel
theorem dX11_sheet_81 : decode cX11_sheet 81 = .ok (.iconst 0, 1) := by decide +kernel
theorem dX11_sheet_82 : decode cX11_sheet 82 = .ok (.goto 4, 3) := by decide +kernel
theorem dX11_sheet_85 : decode cX11_sheet 85 = .ok (.iload_n 3, 1) := by decide +kernel
theorem dX11_sheet_86 : decode cX11_sheet 86 = .ok (.iastore, 1) := by decide +kernel
theorem dX11_sheet_87 : decode cX11_sheet 87 = .ok (.aload_n 0, 1) := by decide +kernel
theorem dX11_sheet_88 : decode cX11_sheet 88 = .ok (.getfield 75, 3) := by decide +kernel
theorem dX11_sheet_91 : decode cX11_sheet 91 = .ok (.iload_n 1, 1) := by decide +kernel
theorem dX11_sheet_92 : decode cX11_sheet 92 = .ok (.aaload, 1) := by decide +kernel
theorem dX11_sheet_93 : decode cX11_sheet 93 = .ok (.iconst 0, 1) := by decide +kernel
theorem dX11_sheet_94 : decode cX11_sheet 94 = .ok (.invokestatic 285, 3) := by decide +kernel
theorem dX11_sheet_97 : decode cX11_sheet 97 = .ok (.iconst 1, 1) := by decide +kernel
theorem dX11_sheet_98 : decode cX11_sheet 98 = .ok (.ireturn, 1) := by decide +kernel
theorem dX11_put_0 : decode cX11_put 0 = .ok (.iload_n 1, 1) := by decide +kernel
theorem dX11_put_1 : decode cX11_put 1 = .ok (.invokestatic 247, 3) := by decide +kernel
theorem dX11_put_4 : decode cX11_put 4 = .ok (.ifCond .ne 9, 3) := by decide +kernel
theorem dX11_put_7 : decode cX11_put 7 = .ok (.aload_n 0, 1) := by decide +kernel
theorem dX11_put_8 : decode cX11_put 8 = .ok (.iconst 1, 1) := by decide +kernel
theorem dX11_put_9 : decode cX11_put 9 = .ok (.invokevirtual 82, 3) := by decide +kernel
theorem dX11_put_12 : decode cX11_put 12 = .ok (.ireturn, 1) := by decide +kernel
theorem dX11_put_13 : decode cX11_put 13 = .ok (.aload_n 0, 1) := by decide +kernel
theorem dX11_put_14 : decode cX11_put 14 = .ok (.iload_n 1, 1) := by decide +kernel
theorem dX11_put_15 : decode cX11_put 15 = .ok (.invokevirtual 250, 3) := by decide +kernel
theorem dX11_put_18 : decode cX11_put 18 = .ok (.ifCond .eq 9, 3) := by decide +kernel
theorem dX11_put_21 : decode cX11_put 21 = .ok (.aload_n 0, 1) := by decide +kernel
theorem dX11_put_22 : decode cX11_put 22 = .ok (.iconst 2, 1) := by decide +kernel
theorem dX11_put_23 : decode cX11_put 23 = .ok (.invokevirtual 82, 3) := by decide +kernel
theorem dX11_put_26 : decode cX11_put 26 = .ok (.ireturn, 1) := by decide +kernel
theorem dX11_put_27 : decode cX11_put 27 = .ok (.iload_n 2, 1) := by decide +kernel
theorem dX11_put_28 : decode cX11_put 28 = .ok (.iconst 0, 1) := by decide +kernel
theorem dX11_put_29 : decode cX11_put 29 = .ok (.aload_n 0, 1) := by decide +kernel
theorem dX11_put_30 : decode cX11_put 30 = .ok (.getfield 70, 3) := by decide +kernel
theorem dX11_put_33 : decode cX11_put 33 = .ok (.iload_n 1, 1) := by decide +kernel
theorem dX11_put_34 : decode cX11_put 34 = .ok (.iaload, 1) := by decide +kernel
theorem dX11_put_35 : decode cX11_put 35 = .ok (.iconst 1, 1) := by decide +kernel
theorem dX11_put_36 : decode cX11_put 36 = .ok (.isub, 1) := by decide +kernel
theorem dX11_put_37 : decode cX11_put 37 = .ok (.invokestatic 78, 3) := by decide +kernel
theorem dX11_put_40 : decode cX11_put 40 = .ok (.ifCond .ne 9, 3) := by decide +kernel
theorem dX11_put_43 : decode cX11_put 43 = .ok (.aload_n 0, 1) := by decide +kernel
theorem dX11_put_44 : decode cX11_put 44 = .ok (.iconst 1, 1) := by decide +kernel
theorem dX11_put_45 : decode cX11_put 45 = .ok (.invokevirtual 82, 3) := by decide +kernel
theorem dX11_put_48 : decode cX11_put 48 = .ok (.ireturn, 1) := by decide +kernel
theorem dX11_put_49 : decode cX11_put 49 = .ok (.bipush 32, 2) := by decide +kernel
theorem dX11_put_51 : decode cX11_put 51 = .ok (.aload_n 0, 1) := by decide +kernel
theorem dX11_put_52 : decode cX11_put 52 = .ok (.getfield 67, 3) := by decide +kernel
theorem dX11_put_55 : decode cX11_put 55 = .ok (.iload_n 1, 1) := by decide +kernel
theorem dX11_put_56 : decode cX11_put 56 = .ok (.iaload, 1) := by decide +kernel
theorem dX11_put_57 : decode cX11_put 57 = .ok (.isub, 1) := by decide +kernel
theorem dX11_put_58 : decode cX11_put 58 = .ok (.istore 4, 2) := by decide +kernel
theorem dX11_put_60 : decode cX11_put 60 = .ok (.aload_n 0, 1) := by decide +kernel
theorem dX11_put_61 : decode cX11_put 61 = .ok (.getfield 75, 3) := by decide +kernel
theorem dX11_put_64 : decode cX11_put 64 = .ok (.iload_n 1, 1) := by decide +kernel
theorem dX11_put_65 : decode cX11_put 65 = .ok (.aaload, 1) := by decide +kernel
theorem dX11_put_66 : decode cX11_put 66 = .ok (.iload_n 2, 1) := by decide +kernel
theorem dX11_put_67 : decode cX11_put 67 = .ok (.iload_n 3, 1) := by decide +kernel
theorem dX11_put_68 : decode cX11_put 68 = .ok (.iload 4, 2) := by decide +kernel
theorem dX11_put_70 : decode cX11_put 70 = .ok (.ishl, 1) := by decide +kernel
theorem dX11_put_71 : decode cX11_put 71 = .ok (.iload 4, 2) := by decide +kernel
theorem dX11_put_73 : decode cX11_put 73 = .ok (.iushr, 1) := by decide +kernel
theorem dX11_put_74 : decode cX11_put 74 = .ok (.iastore, 1) := by decide +kernel
theorem dX11_put_75 : decode cX11_put 75 = .ok (.iconst 1, 1) := by decide +kernel
theorem dX11_put_76 : decode cX11_put 76 = .ok (.ireturn, 1) := by decide +kernel
theorem dX11_move_0 : decode cX11_move 0 = .ok (.iload_n 1, 1) := by decide +kernel
theorem dX11_move_1 : decode cX11_move 1 = .ok (.invokestatic 247, 3) := by decide +kernel
theorem dX11_move_4 : decode cX11_move 4 = .ok (.ifCond .eq 10, 3) := by decide +kernel
theorem dX11_move_7 : decode cX11_move 7 = .ok (.iload_n 3, 1) := by decide +kernel
theorem dX11_move_8 : decode cX11_move 8 = .ok (.invokestatic 247, 3) := by decide +kernel
theorem dX11_move_11 : decode cX11_move 11 = .ok (.ifCond .ne 9, 3) := by decide +kernel
theorem dX11_move_14 : decode cX11_move 14 = .ok (.aload_n 0, 1) := by decide +kernel
theorem dX11_move_15 : decode cX11_move 15 = .ok (.iconst 1, 1) := by decide +kernel
theorem dX11_move_16 : decode cX11_move 16 = .ok (.invokevirtual 82, 3) := by decide +kernel
theorem dX11_move_19 : decode cX11_move 19 = .ok (.ireturn, 1) := by decide +kernel
theorem dX11_move_20 : decode cX11_move 20 = .ok (.aload_n 0, 1) := by decide +kernel
theorem dX11_move_21 : decode cX11_move 21 = .ok (.iload_n 1, 1) := by decide +kernel
theorem dX11_move_22 : decode cX11_move 22 = .ok (.invokevirtual 250, 3) := by decide +kernel
theorem dX11_move_25 : decode cX11_move 25 = .ok (.ifCond .ne 11, 3) := by decide +kernel
theorem dX11_move_28 : decode cX11_move 28 = .ok (.aload_n 0, 1) := by decide +kernel
theorem dX11_move_29 : decode cX11_move 29 = .ok (.iload_n 3, 1) := by decide +kernel
theorem dX11_move_30 : decode cX11_move 30 = .ok (.invokevirtual 250, 3) := by decide +kernel
theorem dX11_move_33 : decode cX11_move 33 = .ok (.ifCond .eq 9, 3) := by decide +kernel
theorem dX11_move_36 : decode cX11_move 36 = .ok (.aload_n 0, 1) := by decide +kernel
theorem dX11_move_37 : decode cX11_move 37 = .ok (.iconst 2, 1) := by decide +kernel
theorem dX11_move_38 : decode cX11_move 38 = .ok (.invokevirtual 82, 3) := by decide +kernel
theorem dX11_move_41 : decode cX11_move 41 = .ok (.ireturn, 1) := by decide +kernel
theorem dX11_move_42 : decode cX11_move 42 = .ok (.aload_n 0, 1) := by decide +kernel
theorem dX11_move_43 : decode cX11_move 43 = .ok (.getfield 67, 3) := by decide +kernel
theorem dX11_move_46 : decode cX11_move 46 = .ok (.iload_n 1, 1) := by decide +kernel
theorem dX11_move_47 : decode cX11_move 47 = .ok (.iaload, 1) := by decide +kernel
theorem dX11_move_48 : decode cX11_move 48 = .ok (.aload_n 0, 1) := by decide +kernel
theorem dX11_move_49 : decode cX11_move 49 = .ok (.getfield 67, 3) := by decide +kernel
theorem dX11_move_52 : decode cX11_move 52 = .ok (.iload_n 3, 1) := by decide +kernel
theorem dX11_move_53 : decode cX11_move 53 = .ok (.iaload, 1) := by decide +kernel
theorem dX11_move_54 : decode cX11_move 54 = .ok (.if_icmp .eq 9, 3) := by decide +kernel
theorem dX11_move_57 : decode cX11_move 57 = .ok (.aload_n 0, 1) := by decide +kernel
theorem dX11_move_58 : decode cX11_move 58 = .ok (.iconst 5, 1) := by decide +kernel
theorem dX11_move_59 : decode cX11_move 59 = .ok (.invokevirtual 82, 3) := by decide +kernel
theorem dX11_move_62 : decode cX11_move 62 = .ok (.ireturn, 1) := by decide +kernel
theorem dX11_move_63 : decode cX11_move 63 = .ok (.aload_n 0, 1) := by decide +kernel
theorem dX11_move_64 : decode cX11_move 64 = .ok (.iload_n 1, 1) := by decide +kernel
theorem dX11_move_65 : decode cX11_move 65 = .ok (.iload_n 2, 1) := by decide +kernel
theorem dX11_move_66 : decode cX11_move 66 = .ok (.iload 5, 2) := by decide +kernel
theorem dX11_move_68 : decode cX11_move 68 = .ok (.invokevirtual 291, 3) := by decide +kernel
theorem dX11_move_71 : decode cX11_move 71 = .ok (.ifCond .eq 15, 3) := by decide +kernel
theorem dX11_move_74 : decode cX11_move 74 = .ok (.aload_n 0, 1) := by decide +kernel
theorem dX11_move_75 : decode cX11_move 75 = .ok (.iload_n 3, 1) := by decide +kernel
theorem dX11_move_76 : decode cX11_move 76 = .ok (.iload 4, 2) := by decide +kernel
theorem dX11_move_78 : decode cX11_move 78 = .ok (.iload 5, 2) := by decide +kernel
theorem dX11_move_80 : decode cX11_move 80 = .ok (.invokevirtual 291, 3) := by decide +kernel
theorem dX11_move_83 : decode cX11_move 83 = .ok (.ifCond .ne 9, 3) := by decide +kernel
theorem dX11_move_86 : decode cX11_move 86 = .ok (.aload_n 0, 1) := by decide +kernel
theorem dX11_move_87 : decode cX11_move 87 = .ok (.iconst 1, 1) := by decide +kernel
theorem dX11_move_88 : decode cX11_move 88 = .ok (.invokevirtual 82, 3) := by decide +kernel
theorem dX11_move_91 : decode cX11_move 91 = .ok (.ireturn, 1) := by decide +kernel
theorem dX11_move_92 : decode cX11_move 92 = .ok (.aload_n 0, 1) := by decide +kernel
theorem dX11_move_93 : decode cX11_move 93 = .ok (.getfield 75, 3) := by decide +kernel
theorem dX11_move_96 : decode cX11_move 96 = .ok (.iload_n 1, 1) := by decide +kernel
theorem dX11_move_97 : decode cX11_move 97 = .ok (.aaload, 1) := by decide +kernel
theorem dX11_move_98 : decode cX11_move 98 = .ok (.iload_n 2, 1) := by decide +kernel
theorem dX11_move_99 : decode cX11_move 99 = .ok (.aload_n 0, 1) := by decide +kernel
theorem dX11_move_100 : decode cX11_move 100 = .ok (.getfield 75, 3) := by decide +kernel
theorem dX11_move_103 : decode cX11_move 103 = .ok (.iload_n 3, 1) := by decide +kernel
theorem dX11_move_104 : decode cX11_move 104 = .ok (.aaload, 1) := by decide +kernel
theorem dX11_move_105 : decode cX11_move 105 = .ok (.iload 4, 2) := by decide +kernel
theorem dX11_move_107 : decode cX11_move 107 = .ok (.iload 5, 2) := by decide +kernel
theorem dX11_move_109 : decode cX11_move 109 = .ok (.invokestatic 294, 3) := by decide +kernel
theorem dX11_move_112 : decode cX11_move 112 = .ok (.iload 5, 2) := by decide +kernel
theorem dX11_move_114 : decode cX11_move 114 = .ok (.ireturn, 1) := by decide +kernel
theorem dX11_airs_0 : decode cX11_airs 0 = .ok (.iload_n 1, 1) := by decide +kernel
theorem dX11_airs_1 : decode cX11_airs 1 = .ok (.invokestatic 247, 3) := by decide +kernel
theorem dX11_airs_4 : decode cX11_airs 4 = .ok (.ifCond .ne 9, 3) := by decide +kernel
theorem dX11_airs_7 : decode cX11_airs 7 = .ok (.aload_n 0, 1) := by decide +kernel
theorem dX11_airs_8 : decode cX11_airs 8 = .ok (.iconst 1, 1) := by decide +kernel
theorem dX11_airs_9 : decode cX11_airs 9 = .ok (.invokevirtual 82, 3) := by decide +kernel
theorem dX11_airs_12 : decode cX11_airs 12 = .ok (.ireturn, 1) := by decide +kernel
theorem dX11_airs_13 : decode cX11_airs 13 = .ok (.aload_n 0, 1) := by decide +kernel
theorem dX11_airs_14 : decode cX11_airs 14 = .ok (.iload_n 1, 1) := by decide +kernel
theorem dX11_airs_15 : decode cX11_airs 15 = .ok (.invokevirtual 250, 3) := by decide +kernel
theorem dX11_airs_18 : decode cX11_airs 18 = .ok (.ifCond .eq 9, 3) := by decide +kernel
theorem dX11_airs_21 : decode cX11_airs 21 = .ok (.aload_n 0, 1) := by decide +kernel
theorem dX11_airs_22 : decode cX11_airs 22 = .ok (.iconst 2, 1) := by decide +kernel
theorem dX11_airs_23 : decode cX11_airs 23 = .ok (.invokevirtual 82, 3) := by decide +kernel
theorem dX11_airs_26 : decode cX11_airs 26 = .ok (.ireturn, 1) := by decide +kernel
theorem dX11_airs_27 : decode cX11_airs 27 = .ok (.aload_n 0, 1) := by decide +kernel
theorem dX11_airs_28 : decode cX11_airs 28 = .ok (.getfield 70, 3) := by decide +kernel
theorem dX11_airs_31 : decode cX11_airs 31 = .ok (.iload_n 1, 1) := by decide +kernel
theorem dX11_airs_32 : decode cX11_airs 32 = .ok (.iaload, 1) := by decide +kernel
theorem dX11_airs_33 : decode cX11_airs 33 = .ok (.aload_n 0, 1) := by decide +kernel
theorem dX11_airs_34 : decode cX11_airs 34 = .ok (.getfield 14, 3) := by decide +kernel
theorem dX11_airs_37 : decode cX11_airs 37 = .ok (.getfield 86, 3) := by decide +kernel
theorem dX11_airs_40 : decode cX11_airs 40 = .ok (.invokevirtual 93, 3) := by decide +kernel
theorem dX11_airs_43 : decode cX11_airs 43 = .ok (.invokestatic 158, 3) := by decide +kernel
theorem dX11_airs_46 : decode cX11_airs 46 = .ok (.istore_n 2, 1) := by decide +kernel
theorem dX11_airs_47 : decode cX11_airs 47 = .ok (.iconst 0, 1) := by decide +kernel
theorem dX11_airs_48 : decode cX11_airs 48 = .ok (.istore_n 3, 1) := by decide +kernel
theorem dX11_airs_49 : decode cX11_airs 49 = .ok (.iload_n 3, 1) := by decide +kernel
theorem dX11_airs_50 : decode cX11_airs 50 = .ok (.iload_n 2, 1) := by decide +kernel
theorem dX11_airs_51 : decode cX11_airs 51 = .ok (.if_icmp .ge 46, 3) := by decide +kernel
theorem dX11_airs_54 : decode cX11_airs 54 = .ok (.aload_n 0, 1) := by decide +kernel
theorem dX11_airs_55 : decode cX11_airs 55 = .ok (.getfield 75, 3) := by decide +kernel
theorem dX11_airs_58 : decode cX11_airs 58 = .ok (.iload_n 1, 1) := by decide +kernel
theorem dX11_airs_59 : decode cX11_airs 59 = .ok (.aaload, 1) := by decide +kernel
theorem dX11_airs_60 : decode cX11_airs 60 = .ok (.iload_n 3, 1) := by decide +kernel
theorem dX11_airs_61 : decode cX11_airs 61 = .ok (.iaload, 1) := by decide +kernel
theorem dX11_airs_62 : decode cX11_airs 62 = .ok (.iconst 0, 1) := by decide +kernel
theorem dX11_airs_63 : decode cX11_airs 63 = .ok (.bipush 99, 2) := by decide +kernel
theorem dX11_airs_65 : decode cX11_airs 65 = .ok (.invokestatic 78, 3) := by decide +kernel
theorem dX11_airs_68 : decode cX11_airs 68 = .ok (.ifCond .eq 29, 3) := by decide +kernel
theorem dX11_airs_71 : decode cX11_airs 71 = .ok (.aload_n 0, 1) := by decide +kernel
theorem dX11_airs_72 : decode cX11_airs 72 = .ok (.getfield 14, 3) := by decide +kernel
theorem dX11_airs_75 : decode cX11_airs 75 = .ok (.getfield 86, 3) := by decide +kernel
theorem dX11_airs_78 : decode cX11_airs 78 = .ok (.getfield 101, 3) := by decide +kernel
theorem dX11_airs_81 : decode cX11_airs 81 = .ok (.iload_n 3, 1) := by decide +kernel
theorem dX11_airs_82 : decode cX11_airs 82 = .ok (.aload_n 0, 1) := by decide +kernel
theorem dX11_airs_83 : decode cX11_airs 83 = .ok (.getfield 75, 3) := by decide +kernel
theorem dX11_airs_86 : decode cX11_airs 86 = .ok (.iload_n 1, 1) := by decide +kernel
theorem dX11_airs_87 : decode cX11_airs 87 = .ok (.aaload, 1) := by decide +kernel
theorem dX11_airs_88 : decode cX11_airs 88 = .ok (.iload_n 3, 1) := by decide +kernel
theorem dX11_airs_89 : decode cX11_airs 89 = .ok (.iaload, 1) := by decide +kernel
theorem dX11_airs_90 : decode cX11_airs 90 = .ok (.iastore, 1) := by decide +kernel
theorem dX11_airs_91 : decode cX11_airs 91 = .ok (.iinc 3 1, 3) := by decide +kernel
theorem dX11_airs_94 : decode cX11_airs 94 = .ok (.goto (-45), 3) := by decide +kernel
theorem dX11_airs_97 : decode cX11_airs 97 = .ok (.iload_n 3, 1) := by decide +kernel
theorem dX11_airs_98 : decode cX11_airs 98 = .ok (.ireturn, 1) := by decide +kernel
theorem dX11_judge_0 : decode cX11_judge 0 = .ok (.iload_n 1, 1) := by decide +kernel
theorem dX11_judge_1 : decode cX11_judge 1 = .ok (.invokestatic 247, 3) := by decide +kernel
theorem dX11_judge_4 : decode cX11_judge 4 = .ok (.ifCond .ne 9, 3) := by decide +kernel
theorem dX11_judge_7 : decode cX11_judge 7 = .ok (.aload_n 0, 1) := by decide +kernel
theorem dX11_judge_8 : decode cX11_judge 8 = .ok (.iconst 1, 1) := by decide +kernel
theorem dX11_judge_9 : decode cX11_judge 9 = .ok (.invokevirtual 82, 3) := by decide +kernel
theorem dX11_judge_12 : decode cX11_judge 12 = .ok (.ireturn, 1) := by decide +kernel
theorem dX11_judge_13 : decode cX11_judge 13 = .ok (.aload_n 0, 1) := by decide +kernel
theorem dX11_judge_14 : decode cX11_judge 14 = .ok (.iload_n 1, 1) := by decide +kernel
theorem dX11_judge_15 : decode cX11_judge 15 = .ok (.invokevirtual 250, 3) := by decide +kernel
theorem dX11_judge_18 : decode cX11_judge 18 = .ok (.ifCond .eq 9, 3) := by decide +kernel
theorem dX11_judge_21 : decode cX11_judge 21 = .ok (.aload_n 0, 1) := by decide +kernel
theorem dX11_judge_22 : decode cX11_judge 22 = .ok (.iconst 2, 1) := by decide +kernel
theorem dX11_judge_23 : decode cX11_judge 23 = .ok (.invokevirtual 82, 3) := by decide +kernel
theorem dX11_judge_26 : decode cX11_judge 26 = .ok (.ireturn, 1) := by decide +kernel
theorem dX11_judge_27 : decode cX11_judge 27 = .ok (.aload_n 0, 1) := by decide +kernel
theorem dX11_judge_28 : decode cX11_judge 28 = .ok (.iload_n 1, 1) := by decide +kernel
theorem dX11_judge_29 : decode cX11_judge 29 = .ok (.aload_n 0, 1) := by decide +kernel
theorem dX11_judge_30 : decode cX11_judge 30 = .ok (.getfield 14, 3) := by decide +kernel
theorem dX11_judge_33 : decode cX11_judge 33 = .ok (.getfield 86, 3) := by decide +kernel
theorem dX11_judge_36 : decode cX11_judge 36 = .ok (.invokevirtual 256, 3) := by decide +kernel
theorem dX11_judge_39 : decode cX11_judge 39 = .ok (.ireturn, 1) := by decide +kernel
theorem dX11_image_0 : decode cX11_image 0 = .ok (.aload_n 0, 1) := by decide +kernel
theorem dX11_image_1 : decode cX11_image 1 = .ok (.getfield 18, 3) := by decide +kernel
theorem dX11_image_4 : decode cX11_image 4 = .ok (.aload_n 0, 1) := by decide +kernel
theorem dX11_image_5 : decode cX11_image 5 = .ok (.getfield 14, 3) := by decide +kernel
theorem dX11_image_8 : decode cX11_image 8 = .ok (.invokevirtual 300, 3) := by decide +kernel
theorem dX11_image_11 : decode cX11_image 11 = .ok (.aload_n 0, 1) := by decide +kernel
theorem dX11_image_12 : decode cX11_image 12 = .ok (.dup, 1) := by decide +kernel
theorem dX11_image_13 : decode cX11_image 13 = .ok (.getfield 303, 3) := by decide +kernel
theorem dX11_image_16 : decode cX11_image 16 = .ok (.iconst 1, 1) := by decide +kernel
theorem dX11_image_17 : decode cX11_image 17 = .ok (.iadd, 1) := by decide +kernel
theorem dX11_image_18 : decode cX11_image 18 = .ok (.putfield 303, 3) := by decide +kernel
theorem dX11_image_21 : decode cX11_image 21 = .ok (.aload_n 0, 1) := by decide +kernel
theorem dX11_image_22 : decode cX11_image 22 = .ok (.getfield 303, 3) := by decide +kernel
theorem dX11_image_25 : decode cX11_image 25 = .ok (.ireturn, 1) := by decide +kernel
theorem dX11_restore_0 : decode cX11_restore 0 = .ok (.aload_n 0, 1) := by decide +kernel
theorem dX11_restore_1 : decode cX11_restore 1 = .ok (.getfield 303, 3) := by decide +kernel
theorem dX11_restore_4 : decode cX11_restore 4 = .ok (.ifCond .ne 9, 3) := by decide +kernel
theorem dX11_restore_7 : decode cX11_restore 7 = .ok (.aload_n 0, 1) := by decide +kernel
theorem dX11_restore_8 : decode cX11_restore 8 = .ok (.iconst 2, 1) := by decide +kernel
theorem dX11_restore_9 : decode cX11_restore 9 = .ok (.invokevirtual 82, 3) := by decide +kernel
theorem dX11_restore_12 : decode cX11_restore 12 = .ok (.ireturn, 1) := by decide +kernel
theorem dX11_restore_13 : decode cX11_restore 13 = .ok (.aload_n 0, 1) := by decide +kernel
theorem dX11_restore_14 : decode cX11_restore 14 = .ok (.getfield 14, 3) := by decide +kernel
theorem dX11_restore_17 : decode cX11_restore 17 = .ok (.aload_n 0, 1) := by decide +kernel
theorem dX11_restore_18 : decode cX11_restore 18 = .ok (.getfield 18, 3) := by decide +kernel
theorem dX11_restore_21 : decode cX11_restore 21 = .ok (.invokevirtual 300, 3) := by decide +kernel
theorem dX11_restore_24 : decode cX11_restore 24 = .ok (.aload_n 0, 1) := by decide +kernel
theorem dX11_restore_25 : decode cX11_restore 25 = .ok (.getfield 14, 3) := by decide +kernel
theorem dX11_restore_28 : decode cX11_restore 28 = .ok (.getfield 86, 3) := by decide +kernel
theorem dX11_restore_31 : decode cX11_restore 31 = .ok (.getfield 198, 3) := by decide +kernel
theorem dX11_restore_34 : decode cX11_restore 34 = .ok (.ireturn, 1) := by decide +kernel
theorem dX11_tell_0 : decode cX11_tell 0 = .ok (.aload_n 0, 1) := by decide +kernel
theorem dX11_tell_1 : decode cX11_tell 1 = .ok (.getfield 14, 3) := by decide +kernel
theorem dX11_tell_4 : decode cX11_tell 4 = .ok (.getfield 306, 3) := by decide +kernel
theorem dX11_tell_7 : decode cX11_tell 7 = .ok (.iconst 0, 1) := by decide +kernel
theorem dX11_tell_8 : decode cX11_tell 8 = .ok (.bipush 19, 2) := by decide +kernel
theorem dX11_tell_10 : decode cX11_tell 10 = .ok (.invokestatic 78, 3) := by decide +kernel
theorem dX11_tell_13 : decode cX11_tell 13 = .ok (.ifCond .ne 9, 3) := by decide +kernel
theorem dX11_tell_16 : decode cX11_tell 16 = .ok (.aload_n 0, 1) := by decide +kernel
theorem dX11_tell_17 : decode cX11_tell 17 = .ok (.iconst 4, 1) := by decide +kernel
theorem dX11_tell_18 : decode cX11_tell 18 = .ok (.invokevirtual 82, 3) := by decide +kernel
theorem dX11_tell_21 : decode cX11_tell 21 = .ok (.ireturn, 1) := by decide +kernel
theorem dX11_tell_22 : decode cX11_tell 22 = .ok (.aload_n 0, 1) := by decide +kernel
theorem dX11_tell_23 : decode cX11_tell 23 = .ok (.getfield 14, 3) := by decide +kernel
theorem dX11_tell_26 : decode cX11_tell 26 = .ok (.getfield 309, 3) := by decide +kernel
theorem dX11_tell_29 : decode cX11_tell 29 = .ok (.aload_n 0, 1) := by decide +kernel
theorem dX11_tell_30 : decode cX11_tell 30 = .ok (.getfield 14, 3) := by decide +kernel
theorem dX11_tell_33 : decode cX11_tell 33 = .ok (.getfield 306, 3) := by decide +kernel
theorem dX11_tell_36 : decode cX11_tell 36 = .ok (.iload_n 1, 1) := by decide +kernel
theorem dX11_tell_37 : decode cX11_tell 37 = .ok (.iastore, 1) := by decide +kernel
theorem dX11_tell_38 : decode cX11_tell 38 = .ok (.aload_n 0, 1) := by decide +kernel
theorem dX11_tell_39 : decode cX11_tell 39 = .ok (.getfield 14, 3) := by decide +kernel
theorem dX11_tell_42 : decode cX11_tell 42 = .ok (.dup, 1) := by decide +kernel
theorem dX11_tell_43 : decode cX11_tell 43 = .ok (.getfield 306, 3) := by decide +kernel
theorem dX11_tell_46 : decode cX11_tell 46 = .ok (.iconst 1, 1) := by decide +kernel
theorem dX11_tell_47 : decode cX11_tell 47 = .ok (.iadd, 1) := by decide +kernel
theorem dX11_tell_48 : decode cX11_tell 48 = .ok (.putfield 306, 3) := by decide +kernel
theorem dX11_tell_51 : decode cX11_tell 51 = .ok (.aload_n 0, 1) := by decide +kernel
theorem dX11_tell_52 : decode cX11_tell 52 = .ok (.getfield 14, 3) := by decide +kernel
theorem dX11_tell_55 : decode cX11_tell 55 = .ok (.getfield 306, 3) := by decide +kernel
theorem dX11_tell_58 : decode cX11_tell 58 = .ok (.ireturn, 1) := by decide +kernel
theorem dX11_check_0 : decode cX11_check 0 = .ok (.aload_n 0, 1) := by decide +kernel
theorem dX11_check_1 : decode cX11_check 1 = .ok (.getfield 14, 3) := by decide +kernel
theorem dX11_check_4 : decode cX11_check 4 = .ok (.getfield 306, 3) := by decide +kernel
theorem dX11_check_7 : decode cX11_check 7 = .ok (.istore_n 1, 1) := by decide +kernel
theorem dX11_check_8 : decode cX11_check 8 = .ok (.aload_n 0, 1) := by decide +kernel
theorem dX11_check_9 : decode cX11_check 9 = .ok (.getfield 14, 3) := by decide +kernel
theorem dX11_check_12 : decode cX11_check 12 = .ok (.iconst 0, 1) := by decide +kernel
theorem dX11_check_13 : decode cX11_check 13 = .ok (.putfield 306, 3) := by decide +kernel
theorem dX11_check_16 : decode cX11_check 16 = .ok (.aload_n 0, 1) := by decide +kernel
theorem dX11_check_17 : decode cX11_check 17 = .ok (.getfield 56, 3) := by decide +kernel
theorem dX11_check_20 : decode cX11_check 20 = .ok (.aload_n 0, 1) := by decide +kernel
theorem dX11_check_21 : decode cX11_check 21 = .ok (.getfield 14, 3) := by decide +kernel
theorem dX11_check_24 : decode cX11_check 24 = .ok (.getfield 86, 3) := by decide +kernel
theorem dX11_check_27 : decode cX11_check 27 = .ok (.invokevirtual 236, 3) := by decide +kernel
theorem dX11_check_30 : decode cX11_check 30 = .ok (.iconst 0, 1) := by decide +kernel
theorem dX11_check_31 : decode cX11_check 31 = .ok (.istore_n 2, 1) := by decide +kernel
theorem dX11_check_32 : decode cX11_check 32 = .ok (.iload_n 2, 1) := by decide +kernel
theorem dX11_check_33 : decode cX11_check 33 = .ok (.iload_n 1, 1) := by decide +kernel
theorem dX11_check_34 : decode cX11_check 34 = .ok (.if_icmp .ge 45, 3) := by decide +kernel
theorem dX11_check_37 : decode cX11_check 37 = .ok (.iload_n 2, 1) := by decide +kernel
theorem dX11_check_38 : decode cX11_check 38 = .ok (.bipush 20, 2) := by decide +kernel
theorem dX11_check_40 : decode cX11_check 40 = .ok (.if_icmp .ge 39, 3) := by decide +kernel
theorem dX11_check_43 : decode cX11_check 43 = .ok (.aload_n 0, 1) := by decide +kernel
theorem dX11_check_44 : decode cX11_check 44 = .ok (.getfield 56, 3) := by decide +kernel
theorem dX11_check_47 : decode cX11_check 47 = .ok (.invokevirtual 201, 3) := by decide +kernel
theorem dX11_check_50 : decode cX11_check 50 = .ok (.aload_n 0, 1) := by decide +kernel
theorem dX11_check_51 : decode cX11_check 51 = .ok (.getfield 14, 3) := by decide +kernel
theorem dX11_check_54 : decode cX11_check 54 = .ok (.getfield 309, 3) := by decide +kernel
theorem dX11_check_57 : decode cX11_check 57 = .ok (.iload_n 2, 1) := by decide +kernel
theorem dX11_check_58 : decode cX11_check 58 = .ok (.iaload, 1) := by decide +kernel
theorem dX11_check_59 : decode cX11_check 59 = .ok (.aload_n 0, 1) := by decide +kernel
theorem dX11_check_60 : decode cX11_check 60 = .ok (.getfield 56, 3) := by decide +kernel
theorem dX11_check_63 : decode cX11_check 63 = .ok (.invokevirtual 204, 3) := by decide +kernel
theorem dX11_check_66 : decode cX11_check 66 = .ok (.if_icmp .eq 7, 3) := by decide +kernel
theorem dX11_check_69 : decode cX11_check 69 = .ok (.iconst 1, 1) := by decide +kernel
theorem dX11_check_70 : decode cX11_check 70 = .ok (.iload_n 2, 1) := by decide +kernel
theorem dX11_check_71 : decode cX11_check 71 = .ok (.iadd, 1) := by decide +kernel
theorem dX11_check_72 : decode cX11_check 72 = .ok (.ireturn, 1) := by decide +kernel
theorem dX11_check_73 : decode cX11_check 73 = .ok (.iinc 2 1, 3) := by decide +kernel
theorem dX11_check_76 : decode cX11_check 76 = .ok (.goto (-44), 3) := by decide +kernel
theorem dX11_check_79 : decode cX11_check 79 = .ok (.iconst 0, 1) := by decide +kernel
theorem dX11_check_80 : decode cX11_check 80 = .ok (.ireturn, 1) := by decide +kernel
theorem dX11_count_0 : decode cX11_count 0 = .ok (.iload_n 1, 1) := by decide +kernel
theorem dX11_count_1 : decode cX11_count 1 = .ok (.tableswitch 180 0 11 #[63, 74, 82, 93, 104, 115, 126, 137, 148, 156, 164, 172], 63) := by decide +kernel
theorem dX11_count_64 : decode cX11_count 64 = .ok (.aload_n 0, 1) := by decide +kernel
theorem dX11_count_65 : decode cX11_count 65 = .ok (.getfield 14, 3) := by decide +kernel
theorem dX11_count_68 : decode cX11_count 68 = .ok (.getfield 86, 3) := by decide +kernel
theorem dX11_count_71 : decode cX11_count 71 = .ok (.invokevirtual 93, 3) := by decide +kernel
theorem dX11_count_74 : decode cX11_count 74 = .ok (.ireturn, 1) := by decide +kernel
theorem dX11_count_75 : decode cX11_count 75 = .ok (.aload_n 0, 1) := by decide +kernel
theorem dX11_count_76 : decode cX11_count 76 = .ok (.getfield 14, 3) := by decide +kernel
theorem dX11_count_79 : decode cX11_count 79 = .ok (.getfield 132, 3) := by decide +kernel
theorem dX11_count_82 : decode cX11_count 82 = .ok (.ireturn, 1) := by decide +kernel
theorem dX11_count_83 : decode cX11_count 83 = .ok (.aload_n 0, 1) := by decide +kernel
theorem dX11_count_84 : decode cX11_count 84 = .ok (.getfield 14, 3) := by decide +kernel
theorem dX11_count_87 : decode cX11_count 87 = .ok (.getfield 86, 3) := by decide +kernel
theorem dX11_count_90 : decode cX11_count 90 = .ok (.invokevirtual 204, 3) := by decide +kernel
theorem dX11_count_93 : decode cX11_count 93 = .ok (.ireturn, 1) := by decide +kernel
theorem dX11_count_94 : decode cX11_count 94 = .ok (.aload_n 0, 1) := by decide +kernel
theorem dX11_count_95 : decode cX11_count 95 = .ok (.getfield 14, 3) := by decide +kernel
theorem dX11_count_98 : decode cX11_count 98 = .ok (.getfield 86, 3) := by decide +kernel
theorem dX11_count_101 : decode cX11_count 101 = .ok (.getfield 312, 3) := by decide +kernel
theorem dX11_count_104 : decode cX11_count 104 = .ok (.ireturn, 1) := by decide +kernel
theorem dX11_count_105 : decode cX11_count 105 = .ok (.aload_n 0, 1) := by decide +kernel
theorem dX11_count_106 : decode cX11_count 106 = .ok (.getfield 14, 3) := by decide +kernel
theorem dX11_count_109 : decode cX11_count 109 = .ok (.getfield 86, 3) := by decide +kernel
theorem dX11_count_112 : decode cX11_count 112 = .ok (.getfield 315, 3) := by decide +kernel
theorem dX11_count_115 : decode cX11_count 115 = .ok (.ireturn, 1) := by decide +kernel
theorem dX11_count_116 : decode cX11_count 116 = .ok (.aload_n 0, 1) := by decide +kernel
theorem dX11_count_117 : decode cX11_count 117 = .ok (.getfield 14, 3) := by decide +kernel
theorem dX11_count_120 : decode cX11_count 120 = .ok (.getfield 86, 3) := by decide +kernel
theorem dX11_count_123 : decode cX11_count 123 = .ok (.getfield 198, 3) := by decide +kernel
theorem dX11_count_126 : decode cX11_count 126 = .ok (.ireturn, 1) := by decide +kernel
theorem dX11_count_127 : decode cX11_count 127 = .ok (.aload_n 0, 1) := by decide +kernel
theorem dX11_count_128 : decode cX11_count 128 = .ok (.getfield 14, 3) := by decide +kernel
theorem dX11_count_131 : decode cX11_count 131 = .ok (.getfield 86, 3) := by decide +kernel
theorem dX11_count_134 : decode cX11_count 134 = .ok (.invokevirtual 318, 3) := by decide +kernel
theorem dX11_count_137 : decode cX11_count 137 = .ok (.ireturn, 1) := by decide +kernel
theorem dX11_count_138 : decode cX11_count 138 = .ok (.aload_n 0, 1) := by decide +kernel
theorem dX11_count_139 : decode cX11_count 139 = .ok (.getfield 14, 3) := by decide +kernel
theorem dX11_count_142 : decode cX11_count 142 = .ok (.getfield 86, 3) := by decide +kernel
theorem dX11_count_145 : decode cX11_count 145 = .ok (.invokevirtual 321, 3) := by decide +kernel
theorem dX11_count_148 : decode cX11_count 148 = .ok (.ireturn, 1) := by decide +kernel
theorem dX11_count_149 : decode cX11_count 149 = .ok (.aload_n 0, 1) := by decide +kernel
theorem dX11_count_150 : decode cX11_count 150 = .ok (.getfield 14, 3) := by decide +kernel
theorem dX11_count_153 : decode cX11_count 153 = .ok (.getfield 173, 3) := by decide +kernel
theorem dX11_count_156 : decode cX11_count 156 = .ok (.ireturn, 1) := by decide +kernel
theorem dX11_count_157 : decode cX11_count 157 = .ok (.aload_n 0, 1) := by decide +kernel
theorem dX11_count_158 : decode cX11_count 158 = .ok (.getfield 14, 3) := by decide +kernel
theorem dX11_count_161 : decode cX11_count 161 = .ok (.getfield 306, 3) := by decide +kernel
theorem dX11_count_164 : decode cX11_count 164 = .ok (.ireturn, 1) := by decide +kernel
theorem dX11_count_165 : decode cX11_count 165 = .ok (.aload_n 0, 1) := by decide +kernel
theorem dX11_count_166 : decode cX11_count 166 = .ok (.getfield 49, 3) := by decide +kernel
theorem dX11_count_169 : decode cX11_count 169 = .ok (.getfield 279, 3) := by decide +kernel
theorem dX11_count_172 : decode cX11_count 172 = .ok (.ireturn, 1) := by decide +kernel
theorem dX11_count_173 : decode cX11_count 173 = .ok (.aload_n 0, 1) := by decide +kernel
theorem dX11_count_174 : decode cX11_count 174 = .ok (.getfield 14, 3) := by decide +kernel
theorem dX11_count_177 : decode cX11_count 177 = .ok (.getfield 260, 3) := by decide +kernel
theorem dX11_count_180 : decode cX11_count 180 = .ok (.ireturn, 1) := by decide +kernel
theorem dX11_count_181 : decode cX11_count 181 = .ok (.aload_n 0, 1) := by decide +kernel
theorem dX11_count_182 : decode cX11_count 182 = .ok (.iconst 1, 1) := by decide +kernel
theorem dX11_count_183 : decode cX11_count 183 = .ok (.invokevirtual 82, 3) := by decide +kernel
theorem dX11_count_186 : decode cX11_count 186 = .ok (.ireturn, 1) := by decide +kernel
theorem dX11_told_0 : decode cX11_told 0 = .ok (.iload_n 1, 1) := by decide +kernel
theorem dX11_told_1 : decode cX11_told 1 = .ok (.iconst 1, 1) := by decide +kernel
theorem dX11_told_2 : decode cX11_told 2 = .ok (.iconst 5, 1) := by decide +kernel
theorem dX11_told_3 : decode cX11_told 3 = .ok (.invokestatic 78, 3) := by decide +kernel
theorem dX11_told_6 : decode cX11_told 6 = .ok (.ifCond .eq 12, 3) := by decide +kernel
theorem dX11_told_9 : decode cX11_told 9 = .ok (.aload_n 0, 1) := by decide +kernel
theorem dX11_told_10 : decode cX11_told 10 = .ok (.getfield 63, 3) := by decide +kernel
theorem dX11_told_13 : decode cX11_told 13 = .ok (.iload_n 1, 1) := by decide +kernel
theorem dX11_told_14 : decode cX11_told 14 = .ok (.iaload, 1) := by decide +kernel
theorem dX11_told_15 : decode cX11_told 15 = .ok (.goto 8, 3) := by decide +kernel
theorem dX11_told_18 : decode cX11_told 18 = .ok (.aload_n 0, 1) := by decide +kernel
theorem dX11_told_19 : decode cX11_told 19 = .ok (.iconst 1, 1) := by decide +kernel
theorem dX11_told_20 : decode cX11_told 20 = .ok (.invokevirtual 82, 3) := by decide +kernel
theorem dX11_told_23 : decode cX11_told 23 = .ok (.ireturn, 1) := by decide +kernel
theorem dX11_error_0 : decode cX11_error 0 = .ok (.iload_n 1, 1) := by decide +kernel
theorem dX11_error_1 : decode cX11_error 1 = .ok (.iconst 1, 1) := by decide +kernel
theorem dX11_error_2 : decode cX11_error 2 = .ok (.iconst 5, 1) := by decide +kernel
theorem dX11_error_3 : decode cX11_error 3 = .ok (.invokestatic 78, 3) := by decide +kernel
theorem dX11_error_6 : decode cX11_error 6 = .ok (.ifCond .eq 13, 3) := by decide +kernel
theorem dX11_error_9 : decode cX11_error 9 = .ok (.aload_n 0, 1) := by decide +kernel
theorem dX11_error_10 : decode cX11_error 10 = .ok (.getfield 63, 3) := by decide +kernel
theorem dX11_error_13 : decode cX11_error 13 = .ok (.iload_n 1, 1) := by decide +kernel
theorem dX11_error_14 : decode cX11_error 14 = .ok (.dup2, 1) := by decide +kernel
theorem dX11_error_15 : decode cX11_error 15 = .ok (.iaload, 1) := by decide +kernel
theorem dX11_error_16 : decode cX11_error 16 = .ok (.iconst 1, 1) := by decide +kernel
theorem dX11_error_17 : decode cX11_error 17 = .ok (.iadd, 1) := by decide +kernel
theorem dX11_error_18 : decode cX11_error 18 = .ok (.iastore, 1) := by decide +kernel
theorem dX11_error_19 : decode cX11_error 19 = .ok (.ldc_w 324, 3) := by decide +kernel
theorem dX11_error_22 : decode cX11_error 22 = .ok (.iload_n 1, 1) := by decide +kernel
theorem dX11_error_23 : decode cX11_error 23 = .ok (.isub, 1) := by decide +kernel
theorem dX11_error_24 : decode cX11_error 24 = .ok (.ireturn, 1) := by decide +kernel
theorem dX11_within_0 : decode cX11_within 0 = .ok (.iload_n 0, 1) := by decide +kernel
theorem dX11_within_1 : decode cX11_within 1 = .ok (.iload_n 1, 1) := by decide +kernel
theorem dX11_within_2 : decode cX11_within 2 = .ok (.if_icmp .lt 12, 3) := by decide +kernel
theorem dX11_within_5 : decode cX11_within 5 = .ok (.iload_n 0, 1) := by decide +kernel
theorem dX11_within_6 : decode cX11_within 6 = .ok (.iload_n 2, 1) := by decide +kernel
theorem dX11_within_7 : decode cX11_within 7 = .ok (.if_icmp .gt 7, 3) := by decide +kernel
theorem dX11_within_10 : decode cX11_within 10 = .ok (.iconst 1, 1) := by decide +kernel
theorem dX11_within_11 : decode cX11_within 11 = .ok (.goto 4, 3) := by decide +kernel
theorem dX11_within_14 : decode cX11_within 14 = .ok (.iconst 0, 1) := by decide +kernel
theorem dX11_within_15 : decode cX11_within 15 = .ok (.ireturn, 1) := by decide +kernel
theorem dX11_isCell_0 : decode cX11_isCell 0 = .ok (.aload_n 0, 1) := by decide +kernel
theorem dX11_isCell_1 : decode cX11_isCell 1 = .ok (.getfield 14, 3) := by decide +kernel
theorem dX11_isCell_4 : decode cX11_isCell 4 = .ok (.getfield 86, 3) := by decide +kernel
theorem dX11_isCell_7 : decode cX11_isCell 7 = .ok (.iload_n 1, 1) := by decide +kernel
theorem dX11_isCell_8 : decode cX11_isCell 8 = .ok (.invokevirtual 325, 3) := by decide +kernel
theorem dX11_isCell_11 : decode cX11_isCell 11 = .ok (.ireturn, 1) := by decide +kernel
theorem dX11_isTool_0 : decode cX11_isTool 0 = .ok (.iload_n 1, 1) := by decide +kernel
theorem dX11_isTool_1 : decode cX11_isTool 1 = .ok (.iconst 0, 1) := by decide +kernel
theorem dX11_isTool_2 : decode cX11_isTool 2 = .ok (.aload_n 0, 1) := by decide +kernel
theorem dX11_isTool_3 : decode cX11_isTool 3 = .ok (.getfield 14, 3) := by decide +kernel
theorem dX11_isTool_6 : decode cX11_isTool 6 = .ok (.getfield 132, 3) := by decide +kernel
theorem dX11_isTool_9 : decode cX11_isTool 9 = .ok (.iconst 1, 1) := by decide +kernel
theorem dX11_isTool_10 : decode cX11_isTool 10 = .ok (.isub, 1) := by decide +kernel
theorem dX11_isTool_11 : decode cX11_isTool 11 = .ok (.invokestatic 78, 3) := by decide +kernel
theorem dX11_isTool_14 : decode cX11_isTool 14 = .ok (.ifCond .eq 13, 3) := by decide +kernel
theorem dX11_isTool_17 : decode cX11_isTool 17 = .ok (.iload_n 1, 1) := by decide +kernel
theorem dX11_isTool_18 : decode cX11_isTool 18 = .ok (.bipush 6, 2) := by decide +kernel
theorem dX11_isTool_20 : decode cX11_isTool 20 = .ok (.if_icmp .ge 7, 3) := by decide +kernel
theorem dX11_isTool_23 : decode cX11_isTool 23 = .ok (.iconst 1, 1) := by decide +kernel
theorem dX11_isTool_24 : decode cX11_isTool 24 = .ok (.goto 4, 3) := by decide +kernel
