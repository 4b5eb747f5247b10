theorem dX10_lay_0 : decode cX10_lay 0 = .ok (.aload_n 0, 1) := by decide +kernel
theorem dX10_lay_1 : decode cX10_lay 1 = .ok (.iload_n 1, 1) := by decide +kernel
theorem dX10_lay_2 : decode cX10_lay 2 = .ok (.putfield 9, 3) := by decide +kernel
theorem dX10_lay_5 : decode cX10_lay 5 = .ok (.aload_n 0, 1) := by decide +kernel
theorem dX10_lay_6 : decode cX10_lay 6 = .ok (.iload_n 2, 1) := by decide +kernel
theorem dX10_lay_7 : decode cX10_lay 7 = .ok (.putfield 15, 3) := by decide +kernel
theorem dX10_lay_10 : decode cX10_lay 10 = .ok (.aload_n 0, 1) := by decide +kernel
theorem dX10_lay_11 : decode cX10_lay 11 = .ok (.getfield 18, 3) := by decide +kernel
theorem dX10_lay_14 : decode cX10_lay 14 = .ok (.iconst 0, 1) := by decide +kernel
theorem dX10_lay_15 : decode cX10_lay 15 = .ok (.invokestatic 34, 3) := by decide +kernel
theorem dX10_lay_18 : decode cX10_lay 18 = .ok (.aload_n 0, 1) := by decide +kernel
theorem dX10_lay_19 : decode cX10_lay 19 = .ok (.getfield 22, 3) := by decide +kernel
theorem dX10_lay_22 : decode cX10_lay 22 = .ok (.iconst 5, 1) := by decide +kernel
theorem dX10_lay_23 : decode cX10_lay 23 = .ok (.invokestatic 34, 3) := by decide +kernel
theorem dX10_lay_26 : decode cX10_lay 26 = .ok (.return_, 1) := by decide +kernel
theorem dX10_copy_0 : decode cX10_copy 0 = .ok (.aload_n 0, 1) := by decide +kernel
theorem dX10_copy_1 : decode cX10_copy 1 = .ok (.aload_n 1, 1) := by decide +kernel
theorem dX10_copy_2 : decode cX10_copy 2 = .ok (.getfield 9, 3) := by decide +kernel
theorem dX10_copy_5 : decode cX10_copy 5 = .ok (.putfield 9, 3) := by decide +kernel
theorem dX10_copy_8 : decode cX10_copy 8 = .ok (.aload_n 0, 1) := by decide +kernel
theorem dX10_copy_9 : decode cX10_copy 9 = .ok (.aload_n 1, 1) := by decide +kernel
theorem dX10_copy_10 : decode cX10_copy 10 = .ok (.getfield 15, 3) := by decide +kernel
theorem dX10_copy_13 : decode cX10_copy 13 = .ok (.putfield 15, 3) := by decide +kernel
theorem dX10_copy_16 : decode cX10_copy 16 = .ok (.aload_n 0, 1) := by decide +kernel
theorem dX10_copy_17 : decode cX10_copy 17 = .ok (.aload_n 1, 1) := by decide +kernel
theorem dX10_copy_18 : decode cX10_copy 18 = .ok (.invokevirtual 40, 3) := by decide +kernel
theorem dX10_copy_21 : decode cX10_copy 21 = .ok (.aload_n 1, 1) := by decide +kernel
theorem dX10_copy_22 : decode cX10_copy 22 = .ok (.getfield 22, 3) := by decide +kernel
theorem dX10_copy_25 : decode cX10_copy 25 = .ok (.iconst 0, 1) := by decide +kernel
theorem dX10_copy_26 : decode cX10_copy 26 = .ok (.aload_n 0, 1) := by decide +kernel
theorem dX10_copy_27 : decode cX10_copy 27 = .ok (.getfield 22, 3) := by decide +kernel
theorem dX10_copy_30 : decode cX10_copy 30 = .ok (.iconst 0, 1) := by decide +kernel
theorem dX10_copy_31 : decode cX10_copy 31 = .ok (.bipush 25, 2) := by decide +kernel
theorem dX10_copy_33 : decode cX10_copy 33 = .ok (.invokestatic 44, 3) := by decide +kernel
theorem dX10_copy_36 : decode cX10_copy 36 = .ok (.aload_n 1, 1) := by decide +kernel
theorem dX10_copy_37 : decode cX10_copy 37 = .ok (.getfield 25, 3) := by decide +kernel
theorem dX10_copy_40 : decode cX10_copy 40 = .ok (.iconst 0, 1) := by decide +kernel
theorem dX10_copy_41 : decode cX10_copy 41 = .ok (.aload_n 0, 1) := by decide +kernel
theorem dX10_copy_42 : decode cX10_copy 42 = .ok (.getfield 25, 3) := by decide +kernel
theorem dX10_copy_45 : decode cX10_copy 45 = .ok (.iconst 0, 1) := by decide +kernel
theorem dX10_copy_46 : decode cX10_copy 46 = .ok (.iconst 4, 1) := by decide +kernel
theorem dX10_copy_47 : decode cX10_copy 47 = .ok (.invokestatic 44, 3) := by decide +kernel
theorem dX10_copy_50 : decode cX10_copy 50 = .ok (.aload_n 0, 1) := by decide +kernel
theorem dX10_copy_51 : decode cX10_copy 51 = .ok (.aload_n 1, 1) := by decide +kernel
theorem dX10_copy_52 : decode cX10_copy 52 = .ok (.getfield 50, 3) := by decide +kernel
theorem dX10_copy_55 : decode cX10_copy 55 = .ok (.putfield 50, 3) := by decide +kernel
theorem dX10_copy_58 : decode cX10_copy 58 = .ok (.aload_n 0, 1) := by decide +kernel
theorem dX10_copy_59 : decode cX10_copy 59 = .ok (.aload_n 1, 1) := by decide +kernel
theorem dX10_copy_60 : decode cX10_copy 60 = .ok (.getfield 53, 3) := by decide +kernel
theorem dX10_copy_63 : decode cX10_copy 63 = .ok (.putfield 53, 3) := by decide +kernel
theorem dX10_copy_66 : decode cX10_copy 66 = .ok (.aload_n 0, 1) := by decide +kernel
theorem dX10_copy_67 : decode cX10_copy 67 = .ok (.aload_n 1, 1) := by decide +kernel
theorem dX10_copy_68 : decode cX10_copy 68 = .ok (.getfield 56, 3) := by decide +kernel
theorem dX10_copy_71 : decode cX10_copy 71 = .ok (.putfield 56, 3) := by decide +kernel
theorem dX10_copy_74 : decode cX10_copy 74 = .ok (.return_, 1) := by decide +kernel
theorem dX10_airAs_0 : decode cX10_airAs 0 = .ok (.aload_n 1, 1) := by decide +kernel
theorem dX10_airAs_1 : decode cX10_airAs 1 = .ok (.getfield 18, 3) := by decide +kernel
theorem dX10_airAs_4 : decode cX10_airAs 4 = .ok (.iconst 0, 1) := by decide +kernel
theorem dX10_airAs_5 : decode cX10_airAs 5 = .ok (.aload_n 0, 1) := by decide +kernel
theorem dX10_airAs_6 : decode cX10_airAs 6 = .ok (.getfield 18, 3) := by decide +kernel
theorem dX10_airAs_9 : decode cX10_airAs 9 = .ok (.iconst 0, 1) := by decide +kernel
theorem dX10_airAs_10 : decode cX10_airAs 10 = .ok (.bipush 25, 2) := by decide +kernel
theorem dX10_airAs_12 : decode cX10_airAs 12 = .ok (.invokestatic 44, 3) := by decide +kernel
theorem dX10_airAs_15 : decode cX10_airAs 15 = .ok (.return_, 1) := by decide +kernel
theorem dX10_cells_0 : decode cX10_cells 0 = .ok (.aload_n 0, 1) := by decide +kernel
theorem dX10_cells_1 : decode cX10_cells 1 = .ok (.getfield 9, 3) := by decide +kernel
theorem dX10_cells_4 : decode cX10_cells 4 = .ok (.aload_n 0, 1) := by decide +kernel
theorem dX10_cells_5 : decode cX10_cells 5 = .ok (.getfield 15, 3) := by decide +kernel
theorem dX10_cells_8 : decode cX10_cells 8 = .ok (.imul, 1) := by decide +kernel
theorem dX10_cells_9 : decode cX10_cells 9 = .ok (.ireturn, 1) := by decide +kernel
theorem dX10_has_0 : decode cX10_has 0 = .ok (.iload_n 1, 1) := by decide +kernel
theorem dX10_has_1 : decode cX10_has 1 = .ok (.ifCond .lt 26, 3) := by decide +kernel
theorem dX10_has_4 : decode cX10_has 4 = .ok (.iload_n 1, 1) := by decide +kernel
theorem dX10_has_5 : decode cX10_has 5 = .ok (.aload_n 0, 1) := by decide +kernel
theorem dX10_has_6 : decode cX10_has 6 = .ok (.getfield 9, 3) := by decide +kernel
theorem dX10_has_9 : decode cX10_has 9 = .ok (.aload_n 0, 1) := by decide +kernel
theorem dX10_has_10 : decode cX10_has 10 = .ok (.getfield 15, 3) := by decide +kernel
theorem dX10_has_13 : decode cX10_has 13 = .ok (.imul, 1) := by decide +kernel
theorem dX10_has_14 : decode cX10_has 14 = .ok (.if_icmp .ge 13, 3) := by decide +kernel
theorem dX10_has_17 : decode cX10_has 17 = .ok (.iload_n 1, 1) := by decide +kernel
theorem dX10_has_18 : decode cX10_has 18 = .ok (.bipush 25, 2) := by decide +kernel
theorem dX10_has_20 : decode cX10_has 20 = .ok (.if_icmp .ge 7, 3) := by decide +kernel
theorem dX10_has_23 : decode cX10_has 23 = .ok (.iconst 1, 1) := by decide +kernel
theorem dX10_has_24 : decode cX10_has 24 = .ok (.goto 4, 3) := by decide +kernel
theorem dX10_has_27 : decode cX10_has 27 = .ok (.iconst 0, 1) := by decide +kernel
theorem dX10_has_28 : decode cX10_has 28 = .ok (.ireturn, 1) := by decide +kernel
theorem dX10_rowOf_0 : decode cX10_rowOf 0 = .ok (.aload_n 0, 1) := by decide +kernel
theorem dX10_rowOf_1 : decode cX10_rowOf 1 = .ok (.getfield 15, 3) := by decide +kernel
theorem dX10_rowOf_4 : decode cX10_rowOf 4 = .ok (.ifCond .le 12, 3) := by decide +kernel
theorem dX10_rowOf_7 : decode cX10_rowOf 7 = .ok (.iload_n 1, 1) := by decide +kernel
theorem dX10_rowOf_8 : decode cX10_rowOf 8 = .ok (.aload_n 0, 1) := by decide +kernel
theorem dX10_rowOf_9 : decode cX10_rowOf 9 = .ok (.getfield 15, 3) := by decide +kernel
theorem dX10_rowOf_12 : decode cX10_rowOf 12 = .ok (.idiv, 1) := by decide +kernel
theorem dX10_rowOf_13 : decode cX10_rowOf 13 = .ok (.goto 4, 3) := by decide +kernel
theorem dX10_rowOf_16 : decode cX10_rowOf 16 = .ok (.iconst 0, 1) := by decide +kernel
theorem dX10_rowOf_17 : decode cX10_rowOf 17 = .ok (.ireturn, 1) := by decide +kernel
theorem dX10_columnOf_0 : decode cX10_columnOf 0 = .ok (.aload_n 0, 1) := by decide +kernel
theorem dX10_columnOf_1 : decode cX10_columnOf 1 = .ok (.getfield 15, 3) := by decide +kernel
theorem dX10_columnOf_4 : decode cX10_columnOf 4 = .ok (.ifCond .le 12, 3) := by decide +kernel
theorem dX10_columnOf_7 : decode cX10_columnOf 7 = .ok (.iload_n 1, 1) := by decide +kernel
theorem dX10_columnOf_8 : decode cX10_columnOf 8 = .ok (.aload_n 0, 1) := by decide +kernel
theorem dX10_columnOf_9 : decode cX10_columnOf 9 = .ok (.getfield 15, 3) := by decide +kernel
theorem dX10_columnOf_12 : decode cX10_columnOf 12 = .ok (.irem, 1) := by decide +kernel
theorem dX10_columnOf_13 : decode cX10_columnOf 13 = .ok (.goto 4, 3) := by decide +kernel
theorem dX10_columnOf_16 : decode cX10_columnOf 16 = .ok (.iconst 0, 1) := by decide +kernel
theorem dX10_columnOf_17 : decode cX10_columnOf 17 = .ok (.ireturn, 1) := by decide +kernel
theorem dX10_isOpen_0 : decode cX10_isOpen 0 = .ok (.iload_n 1, 1) := by decide +kernel
theorem dX10_isOpen_1 : decode cX10_isOpen 1 = .ok (.invokestatic 59, 3) := by decide +kernel
theorem dX10_isOpen_4 : decode cX10_isOpen 4 = .ok (.ifCond .eq 17, 3) := by decide +kernel
theorem dX10_isOpen_7 : decode cX10_isOpen 7 = .ok (.aload_n 0, 1) := by decide +kernel
theorem dX10_isOpen_8 : decode cX10_isOpen 8 = .ok (.getfield 25, 3) := by decide +kernel
theorem dX10_isOpen_11 : decode cX10_isOpen 11 = .ok (.iload_n 1, 1) := by decide +kernel
theorem dX10_isOpen_12 : decode cX10_isOpen 12 = .ok (.iaload, 1) := by decide +kernel
theorem dX10_isOpen_13 : decode cX10_isOpen 13 = .ok (.iconst 1, 1) := by decide +kernel
theorem dX10_isOpen_14 : decode cX10_isOpen 14 = .ok (.if_icmp .ne 7, 3) := by decide +kernel
theorem dX10_isOpen_17 : decode cX10_isOpen 17 = .ok (.iconst 1, 1) := by decide +kernel
theorem dX10_isOpen_18 : decode cX10_isOpen 18 = .ok (.goto 4, 3) := by decide +kernel
theorem dX10_isOpen_21 : decode cX10_isOpen 21 = .ok (.iconst 0, 1) := by decide +kernel
theorem dX10_isOpen_22 : decode cX10_isOpen 22 = .ok (.ireturn, 1) := by decide +kernel
theorem dX10_cellsAhead_0 : decode cX10_cellsAhead 0 = .ok (.iload_n 2, 1) := by decide +kernel
theorem dX10_cellsAhead_1 : decode cX10_cellsAhead 1 = .ok (.tableswitch 59 0 2 #[27, 33, 46], 27) := by decide +kernel
theorem dX10_cellsAhead_28 : decode cX10_cellsAhead 28 = .ok (.aload_n 0, 1) := by decide +kernel
theorem dX10_cellsAhead_29 : decode cX10_cellsAhead 29 = .ok (.iload_n 1, 1) := by decide +kernel
theorem dX10_cellsAhead_30 : decode cX10_cellsAhead 30 = .ok (.invokevirtual 63, 3) := by decide +kernel
theorem dX10_cellsAhead_33 : decode cX10_cellsAhead 33 = .ok (.ireturn, 1) := by decide +kernel
theorem dX10_cellsAhead_34 : decode cX10_cellsAhead 34 = .ok (.aload_n 0, 1) := by decide +kernel
theorem dX10_cellsAhead_35 : decode cX10_cellsAhead 35 = .ok (.getfield 15, 3) := by decide +kernel
theorem dX10_cellsAhead_38 : decode cX10_cellsAhead 38 = .ok (.iconst 1, 1) := by decide +kernel
theorem dX10_cellsAhead_39 : decode cX10_cellsAhead 39 = .ok (.isub, 1) := by decide +kernel
theorem dX10_cellsAhead_40 : decode cX10_cellsAhead 40 = .ok (.aload_n 0, 1) := by decide +kernel
theorem dX10_cellsAhead_41 : decode cX10_cellsAhead 41 = .ok (.iload_n 1, 1) := by decide +kernel
theorem dX10_cellsAhead_42 : decode cX10_cellsAhead 42 = .ok (.invokevirtual 67, 3) := by decide +kernel
theorem dX10_cellsAhead_45 : decode cX10_cellsAhead 45 = .ok (.isub, 1) := by decide +kernel
theorem dX10_cellsAhead_46 : decode cX10_cellsAhead 46 = .ok (.ireturn, 1) := by decide +kernel
theorem dX10_cellsAhead_47 : decode cX10_cellsAhead 47 = .ok (.aload_n 0, 1) := by decide +kernel
theorem dX10_cellsAhead_48 : decode cX10_cellsAhead 48 = .ok (.getfield 9, 3) := by decide +kernel
theorem dX10_cellsAhead_51 : decode cX10_cellsAhead 51 = .ok (.iconst 1, 1) := by decide +kernel
theorem dX10_cellsAhead_52 : decode cX10_cellsAhead 52 = .ok (.isub, 1) := by decide +kernel
theorem dX10_cellsAhead_53 : decode cX10_cellsAhead 53 = .ok (.aload_n 0, 1) := by decide +kernel
theorem dX10_cellsAhead_54 : decode cX10_cellsAhead 54 = .ok (.iload_n 1, 1) := by decide +kernel
theorem dX10_cellsAhead_55 : decode cX10_cellsAhead 55 = .ok (.invokevirtual 63, 3) := by decide +kernel
theorem dX10_cellsAhead_58 : decode cX10_cellsAhead 58 = .ok (.isub, 1) := by decide +kernel
theorem dX10_cellsAhead_59 : decode cX10_cellsAhead 59 = .ok (.ireturn, 1) := by decide +kernel
theorem dX10_cellsAhead_60 : decode cX10_cellsAhead 60 = .ok (.aload_n 0, 1) := by decide +kernel
theorem dX10_cellsAhead_61 : decode cX10_cellsAhead 61 = .ok (.iload_n 1, 1) := by decide +kernel
theorem dX10_cellsAhead_62 : decode cX10_cellsAhead 62 = .ok (.invokevirtual 67, 3) := by decide +kernel
theorem dX10_cellsAhead_65 : decode cX10_cellsAhead 65 = .ok (.ireturn, 1) := by decide +kernel
theorem dX10_beside_0 : decode cX10_beside 0 = .ok (.aload_n 0, 1) := by decide +kernel
theorem dX10_beside_1 : decode cX10_beside 1 = .ok (.iload_n 1, 1) := by decide +kernel
theorem dX10_beside_2 : decode cX10_beside 2 = .ok (.iload_n 2, 1) := by decide +kernel
theorem dX10_beside_3 : decode cX10_beside 3 = .ok (.invokevirtual 70, 3) := by decide +kernel
theorem dX10_beside_6 : decode cX10_beside 6 = .ok (.ifCond .gt 5, 3) := by decide +kernel
theorem dX10_beside_9 : decode cX10_beside 9 = .ok (.iconst (-1), 1) := by decide +kernel
theorem dX10_beside_10 : decode cX10_beside 10 = .ok (.ireturn, 1) := by decide +kernel
theorem dX10_beside_11 : decode cX10_beside 11 = .ok (.iload_n 2, 1) := by decide +kernel
theorem dX10_beside_12 : decode cX10_beside 12 = .ok (.tableswitch 46 0 2 #[28, 35, 39], 28) := by decide +kernel
theorem dX10_beside_40 : decode cX10_beside 40 = .ok (.iload_n 1, 1) := by decide +kernel
theorem dX10_beside_41 : decode cX10_beside 41 = .ok (.aload_n 0, 1) := by decide +kernel
theorem dX10_beside_42 : decode cX10_beside 42 = .ok (.getfield 15, 3) := by decide +kernel
theorem dX10_beside_45 : decode cX10_beside 45 = .ok (.isub, 1) := by decide +kernel
theorem dX10_beside_46 : decode cX10_beside 46 = .ok (.ireturn, 1) := by decide +kernel
theorem dX10_beside_47 : decode cX10_beside 47 = .ok (.iload_n 1, 1) := by decide +kernel
theorem dX10_beside_48 : decode cX10_beside 48 = .ok (.iconst 1, 1) := by decide +kernel
theorem dX10_beside_49 : decode cX10_beside 49 = .ok (.iadd, 1) := by decide +kernel
theorem dX10_beside_50 : decode cX10_beside 50 = .ok (.ireturn, 1) := by decide +kernel
theorem dX10_beside_51 : decode cX10_beside 51 = .ok (.iload_n 1, 1) := by decide +kernel
theorem dX10_beside_52 : decode cX10_beside 52 = .ok (.aload_n 0, 1) := by decide +kernel
theorem dX10_beside_53 : decode cX10_beside 53 = .ok (.getfield 15, 3) := by decide +kernel
theorem dX10_beside_56 : decode cX10_beside 56 = .ok (.iadd, 1) := by decide +kernel
theorem dX10_beside_57 : decode cX10_beside 57 = .ok (.ireturn, 1) := by decide +kernel
theorem dX10_beside_58 : decode cX10_beside 58 = .ok (.iload_n 1, 1) := by decide +kernel
theorem dX10_beside_59 : decode cX10_beside 59 = .ok (.iconst 1, 1) := by decide +kernel
theorem dX10_beside_60 : decode cX10_beside 60 = .ok (.isub, 1) := by decide +kernel
theorem dX10_beside_61 : decode cX10_beside 61 = .ok (.ireturn, 1) := by decide +kernel
theorem dX10_strike_0 : decode cX10_strike 0 = .ok (.aload_n 0, 1) := by decide +kernel
theorem dX10_strike_1 : decode cX10_strike 1 = .ok (.iload 4, 2) := by decide +kernel
theorem dX10_strike_3 : decode cX10_strike 3 = .ok (.invokevirtual 74, 3) := by decide +kernel
theorem dX10_strike_6 : decode cX10_strike 6 = .ok (.ifCond .ne 4, 3) := by decide +kernel
theorem dX10_strike_9 : decode cX10_strike 9 = .ok (.return_, 1) := by decide +kernel
theorem dX10_strike_10 : decode cX10_strike 10 = .ok (.aload_n 0, 1) := by decide +kernel
theorem dX10_strike_11 : decode cX10_strike 11 = .ok (.getfield 18, 3) := by decide +kernel
theorem dX10_strike_14 : decode cX10_strike 14 = .ok (.iload 4, 2) := by decide +kernel
theorem dX10_strike_16 : decode cX10_strike 16 = .ok (.iaload, 1) := by decide +kernel
theorem dX10_strike_17 : decode cX10_strike 17 = .ok (.aload_n 1, 1) := by decide +kernel
theorem dX10_strike_18 : decode cX10_strike 18 = .ok (.aload_n 0, 1) := by decide +kernel
theorem dX10_strike_19 : decode cX10_strike 19 = .ok (.getfield 18, 3) := by decide +kernel
theorem dX10_strike_22 : decode cX10_strike 22 = .ok (.iload 4, 2) := by decide +kernel
theorem dX10_strike_24 : decode cX10_strike 24 = .ok (.iaload, 1) := by decide +kernel
theorem dX10_strike_25 : decode cX10_strike 25 = .ok (.iload_n 2, 1) := by decide +kernel
theorem dX10_strike_26 : decode cX10_strike 26 = .ok (.invokevirtual 77, 3) := by decide +kernel
theorem dX10_strike_29 : decode cX10_strike 29 = .ok (.invokestatic 82, 3) := by decide +kernel
theorem dX10_strike_32 : decode cX10_strike 32 = .ok (.istore 6, 2) := by decide +kernel
theorem dX10_strike_34 : decode cX10_strike 34 = .ok (.aload_n 0, 1) := by decide +kernel
theorem dX10_strike_35 : decode cX10_strike 35 = .ok (.getfield 18, 3) := by decide +kernel
theorem dX10_strike_38 : decode cX10_strike 38 = .ok (.iload 4, 2) := by decide +kernel
theorem dX10_strike_40 : decode cX10_strike 40 = .ok (.dup2, 1) := by decide +kernel
theorem dX10_strike_41 : decode cX10_strike 41 = .ok (.iaload, 1) := by decide +kernel
theorem dX10_strike_42 : decode cX10_strike 42 = .ok (.iload 6, 2) := by decide +kernel
theorem dX10_strike_44 : decode cX10_strike 44 = .ok (.isub, 1) := by decide +kernel
theorem dX10_strike_45 : decode cX10_strike 45 = .ok (.iastore, 1) := by decide +kernel
theorem dX10_strike_46 : decode cX10_strike 46 = .ok (.aload_n 0, 1) := by decide +kernel
theorem dX10_strike_47 : decode cX10_strike 47 = .ok (.iload 6, 2) := by decide +kernel
theorem dX10_strike_49 : decode cX10_strike 49 = .ok (.invokevirtual 87, 3) := by decide +kernel
theorem dX10_strike_52 : decode cX10_strike 52 = .ok (.aload_n 0, 1) := by decide +kernel
theorem dX10_strike_53 : decode cX10_strike 53 = .ok (.ldc 91, 2) := by decide +kernel
theorem dX10_strike_55 : decode cX10_strike 55 = .ok (.aload_n 0, 1) := by decide +kernel
theorem dX10_strike_56 : decode cX10_strike 56 = .ok (.getfield 50, 3) := by decide +kernel
theorem dX10_strike_59 : decode cX10_strike 59 = .ok (.aload_n 1, 1) := by decide +kernel
theorem dX10_strike_60 : decode cX10_strike 60 = .ok (.aload_n 0, 1) := by decide +kernel
theorem dX10_strike_61 : decode cX10_strike 61 = .ok (.getfield 22, 3) := by decide +kernel
theorem dX10_strike_64 : decode cX10_strike 64 = .ok (.iload 4, 2) := by decide +kernel
theorem dX10_strike_66 : decode cX10_strike 66 = .ok (.iaload, 1) := by decide +kernel
theorem dX10_strike_67 : decode cX10_strike 67 = .ok (.invokevirtual 92, 3) := by decide +kernel
theorem dX10_strike_70 : decode cX10_strike 70 = .ok (.iadd, 1) := by decide +kernel
theorem dX10_strike_71 : decode cX10_strike 71 = .ok (.invokestatic 82, 3) := by decide +kernel
theorem dX10_strike_74 : decode cX10_strike 74 = .ok (.putfield 50, 3) := by decide +kernel
theorem dX10_strike_77 : decode cX10_strike 77 = .ok (.aload_n 1, 1) := by decide +kernel
theorem dX10_strike_78 : decode cX10_strike 78 = .ok (.iload_n 2, 1) := by decide +kernel
theorem dX10_strike_79 : decode cX10_strike 79 = .ok (.invokevirtual 95, 3) := by decide +kernel
theorem dX10_strike_82 : decode cX10_strike 82 = .ok (.istore 7, 2) := by decide +kernel
theorem dX10_strike_84 : decode cX10_strike 84 = .ok (.iload 4, 2) := by decide +kernel
theorem dX10_strike_86 : decode cX10_strike 86 = .ok (.istore 8, 2) := by decide +kernel
theorem dX10_strike_88 : decode cX10_strike 88 = .ok (.iconst 0, 1) := by decide +kernel
theorem dX10_strike_89 : decode cX10_strike 89 = .ok (.istore 9, 2) := by decide +kernel
theorem dX10_strike_91 : decode cX10_strike 91 = .ok (.iload 9, 2) := by decide +kernel
theorem dX10_strike_93 : decode cX10_strike 93 = .ok (.iload 7, 2) := by decide +kernel
theorem dX10_strike_95 : decode cX10_strike 95 = .ok (.if_icmp .ge 31, 3) := by decide +kernel
theorem dX10_strike_98 : decode cX10_strike 98 = .ok (.aload_n 0, 1) := by decide +kernel
theorem dX10_strike_99 : decode cX10_strike 99 = .ok (.iload 8, 2) := by decide +kernel
theorem dX10_strike_101 : decode cX10_strike 101 = .ok (.invokevirtual 74, 3) := by decide +kernel
theorem dX10_strike_104 : decode cX10_strike 104 = .ok (.ifCond .eq 22, 3) := by decide +kernel
theorem dX10_strike_107 : decode cX10_strike 107 = .ok (.aload_n 0, 1) := by decide +kernel
theorem dX10_strike_108 : decode cX10_strike 108 = .ok (.aload_n 1, 1) := by decide +kernel
theorem dX10_strike_109 : decode cX10_strike 109 = .ok (.iload_n 2, 1) := by decide +kernel
theorem dX10_strike_110 : decode cX10_strike 110 = .ok (.aload_n 3, 1) := by decide +kernel
theorem dX10_strike_111 : decode cX10_strike 111 = .ok (.iload 8, 2) := by decide +kernel
theorem dX10_strike_113 : decode cX10_strike 113 = .ok (.iload 5, 2) := by decide +kernel
theorem dX10_strike_115 : decode cX10_strike 115 = .ok (.invokevirtual 98, 3) := by decide +kernel
theorem dX10_strike_118 : decode cX10_strike 118 = .ok (.istore 8, 2) := by decide +kernel
theorem dX10_strike_120 : decode cX10_strike 120 = .ok (.iinc 9 1, 3) := by decide +kernel
theorem dX10_strike_123 : decode cX10_strike 123 = .ok (.goto (-32), 3) := by decide +kernel
theorem dX10_strike_126 : decode cX10_strike 126 = .ok (.return_, 1) := by decide +kernel
theorem dX10_pushOn_0 : decode cX10_pushOn 0 = .ok (.aload_n 0, 1) := by decide +kernel
theorem dX10_pushOn_1 : decode cX10_pushOn 1 = .ok (.getfield 18, 3) := by decide +kernel
theorem dX10_pushOn_4 : decode cX10_pushOn 4 = .ok (.iload 4, 2) := by decide +kernel
theorem dX10_pushOn_6 : decode cX10_pushOn 6 = .ok (.iaload, 1) := by decide +kernel
theorem dX10_pushOn_7 : decode cX10_pushOn 7 = .ok (.aload_n 1, 1) := by decide +kernel
theorem dX10_pushOn_8 : decode cX10_pushOn 8 = .ok (.aload_n 0, 1) := by decide +kernel
theorem dX10_pushOn_9 : decode cX10_pushOn 9 = .ok (.getfield 18, 3) := by decide +kernel
theorem dX10_pushOn_12 : decode cX10_pushOn 12 = .ok (.iload 4, 2) := by decide +kernel
theorem dX10_pushOn_14 : decode cX10_pushOn 14 = .ok (.iaload, 1) := by decide +kernel
theorem dX10_pushOn_15 : decode cX10_pushOn 15 = .ok (.aload_n 3, 1) := by decide +kernel
theorem dX10_pushOn_16 : decode cX10_pushOn 16 = .ok (.aload_n 0, 1) := by decide +kernel
theorem dX10_pushOn_17 : decode cX10_pushOn 17 = .ok (.getfield 18, 3) := by decide +kernel
theorem dX10_pushOn_20 : decode cX10_pushOn 20 = .ok (.iload 4, 2) := by decide +kernel
theorem dX10_pushOn_22 : decode cX10_pushOn 22 = .ok (.iaload, 1) := by decide +kernel
theorem dX10_pushOn_23 : decode cX10_pushOn 23 = .ok (.aload_n 0, 1) := by decide +kernel
theorem dX10_pushOn_24 : decode cX10_pushOn 24 = .ok (.getfield 22, 3) := by decide +kernel
theorem dX10_pushOn_27 : decode cX10_pushOn 27 = .ok (.iload 4, 2) := by decide +kernel
theorem dX10_pushOn_29 : decode cX10_pushOn 29 = .ok (.iaload, 1) := by decide +kernel
theorem dX10_pushOn_30 : decode cX10_pushOn 30 = .ok (.iload_n 2, 1) := by decide +kernel
theorem dX10_pushOn_31 : decode cX10_pushOn 31 = .ok (.invokevirtual 102, 3) := by decide +kernel
theorem dX10_pushOn_34 : decode cX10_pushOn 34 = .ok (.iload_n 2, 1) := by decide +kernel
theorem dX10_pushOn_35 : decode cX10_pushOn 35 = .ok (.invokevirtual 108, 3) := by decide +kernel
theorem dX10_pushOn_38 : decode cX10_pushOn 38 = .ok (.invokestatic 82, 3) := by decide +kernel
theorem dX10_pushOn_41 : decode cX10_pushOn 41 = .ok (.istore 6, 2) := by decide +kernel
theorem dX10_pushOn_43 : decode cX10_pushOn 43 = .ok (.aload_n 0, 1) := by decide +kernel
theorem dX10_pushOn_44 : decode cX10_pushOn 44 = .ok (.iload 4, 2) := by decide +kernel
theorem dX10_pushOn_46 : decode cX10_pushOn 46 = .ok (.iload 5, 2) := by decide +kernel
theorem dX10_pushOn_48 : decode cX10_pushOn 48 = .ok (.invokevirtual 111, 3) := by decide +kernel
theorem dX10_pushOn_51 : decode cX10_pushOn 51 = .ok (.istore 7, 2) := by decide +kernel
theorem dX10_pushOn_53 : decode cX10_pushOn 53 = .ok (.aload_n 0, 1) := by decide +kernel
theorem dX10_pushOn_54 : decode cX10_pushOn 54 = .ok (.iload 7, 2) := by decide +kernel
theorem dX10_pushOn_56 : decode cX10_pushOn 56 = .ok (.invokevirtual 74, 3) := by decide +kernel
theorem dX10_pushOn_59 : decode cX10_pushOn 59 = .ok (.ifCond .eq 58, 3) := by decide +kernel
theorem dX10_pushOn_62 : decode cX10_pushOn 62 = .ok (.aload_n 0, 1) := by decide +kernel
theorem dX10_pushOn_63 : decode cX10_pushOn 63 = .ok (.getfield 18, 3) := by decide +kernel
theorem dX10_pushOn_66 : decode cX10_pushOn 66 = .ok (.iload 7, 2) := by decide +kernel
theorem dX10_pushOn_68 : decode cX10_pushOn 68 = .ok (.iaload, 1) := by decide +kernel
theorem dX10_pushOn_69 : decode cX10_pushOn 69 = .ok (.iload 6, 2) := by decide +kernel
theorem dX10_pushOn_71 : decode cX10_pushOn 71 = .ok (.iadd, 1) := by decide +kernel
theorem dX10_pushOn_72 : decode cX10_pushOn 72 = .ok (.istore 8, 2) := by decide +kernel
theorem dX10_pushOn_74 : decode cX10_pushOn 74 = .ok (.aload_n 0, 1) := by decide +kernel
theorem dX10_pushOn_75 : decode cX10_pushOn 75 = .ok (.getfield 18, 3) := by decide +kernel
theorem dX10_pushOn_78 : decode cX10_pushOn 78 = .ok (.iload 4, 2) := by decide +kernel
theorem dX10_pushOn_80 : decode cX10_pushOn 80 = .ok (.dup2, 1) := by decide +kernel
theorem dX10_pushOn_81 : decode cX10_pushOn 81 = .ok (.iaload, 1) := by decide +kernel
theorem dX10_pushOn_82 : decode cX10_pushOn 82 = .ok (.iload 6, 2) := by decide +kernel
theorem dX10_pushOn_84 : decode cX10_pushOn 84 = .ok (.isub, 1) := by decide +kernel
theorem dX10_pushOn_85 : decode cX10_pushOn 85 = .ok (.iastore, 1) := by decide +kernel
theorem dX10_pushOn_86 : decode cX10_pushOn 86 = .ok (.aload_n 0, 1) := by decide +kernel
theorem dX10_pushOn_87 : decode cX10_pushOn 87 = .ok (.getfield 18, 3) := by decide +kernel
theorem dX10_pushOn_90 : decode cX10_pushOn 90 = .ok (.iload 7, 2) := by decide +kernel
theorem dX10_pushOn_92 : decode cX10_pushOn 92 = .ok (.iload 8, 2) := by decide +kernel
theorem dX10_pushOn_94 : decode cX10_pushOn 94 = .ok (.bipush 99, 2) := by decide +kernel
theorem dX10_pushOn_96 : decode cX10_pushOn 96 = .ok (.invokestatic 82, 3) := by decide +kernel
theorem dX10_pushOn_99 : decode cX10_pushOn 99 = .ok (.iastore, 1) := by decide +kernel
theorem dX10_pushOn_100 : decode cX10_pushOn 100 = .ok (.aload_n 0, 1) := by decide +kernel
theorem dX10_pushOn_101 : decode cX10_pushOn 101 = .ok (.iload 8, 2) := by decide +kernel
theorem dX10_pushOn_103 : decode cX10_pushOn 103 = .ok (.aload_n 0, 1) := by decide +kernel
theorem dX10_pushOn_104 : decode cX10_pushOn 104 = .ok (.getfield 18, 3) := by decide +kernel
theorem dX10_pushOn_107 : decode cX10_pushOn 107 = .ok (.iload 7, 2) := by decide +kernel
theorem dX10_pushOn_109 : decode cX10_pushOn 109 = .ok (.iaload, 1) := by decide +kernel
theorem dX10_pushOn_110 : decode cX10_pushOn 110 = .ok (.isub, 1) := by decide +kernel
theorem dX10_pushOn_111 : decode cX10_pushOn 111 = .ok (.invokevirtual 87, 3) := by decide +kernel
theorem dX10_pushOn_114 : decode cX10_pushOn 114 = .ok (.goto 30, 3) := by decide +kernel
theorem dX10_pushOn_117 : decode cX10_pushOn 117 = .ok (.aload_n 0, 1) := by decide +kernel
theorem dX10_pushOn_118 : decode cX10_pushOn 118 = .ok (.iload 5, 2) := by decide +kernel
theorem dX10_pushOn_120 : decode cX10_pushOn 120 = .ok (.invokevirtual 114, 3) := by decide +kernel
theorem dX10_pushOn_123 : decode cX10_pushOn 123 = .ok (.ifCond .eq 21, 3) := by decide +kernel
theorem dX10_pushOn_126 : decode cX10_pushOn 126 = .ok (.aload_n 0, 1) := by decide +kernel
theorem dX10_pushOn_127 : decode cX10_pushOn 127 = .ok (.getfield 18, 3) := by decide +kernel
theorem dX10_pushOn_130 : decode cX10_pushOn 130 = .ok (.iload 4, 2) := by decide +kernel
theorem dX10_pushOn_132 : decode cX10_pushOn 132 = .ok (.dup2, 1) := by decide +kernel
theorem dX10_pushOn_133 : decode cX10_pushOn 133 = .ok (.iaload, 1) := by decide +kernel
theorem dX10_pushOn_134 : decode cX10_pushOn 134 = .ok (.iload 6, 2) := by decide +kernel
theorem dX10_pushOn_136 : decode cX10_pushOn 136 = .ok (.isub, 1) := by decide +kernel
theorem dX10_pushOn_137 : decode cX10_pushOn 137 = .ok (.iastore, 1) := by decide +kernel
theorem dX10_pushOn_138 : decode cX10_pushOn 138 = .ok (.aload_n 0, 1) := by decide +kernel
theorem dX10_pushOn_139 : decode cX10_pushOn 139 = .ok (.iload 6, 2) := by decide +kernel
theorem dX10_pushOn_141 : decode cX10_pushOn 141 = .ok (.invokevirtual 87, 3) := by decide +kernel
theorem dX10_pushOn_144 : decode cX10_pushOn 144 = .ok (.iload 7, 2) := by decide +kernel
theorem dX10_pushOn_146 : decode cX10_pushOn 146 = .ok (.ireturn, 1) := by decide +kernel
theorem dX10_goesOut_0 : decode cX10_goesOut 0 = .ok (.aload_n 0, 1) := by decide +kernel
theorem dX10_goesOut_1 : decode cX10_goesOut 1 = .ok (.ldc 91, 2) := by decide +kernel
theorem dX10_goesOut_3 : decode cX10_goesOut 3 = .ok (.aload_n 0, 1) := by decide +kernel
theorem dX10_goesOut_4 : decode cX10_goesOut 4 = .ok (.getfield 53, 3) := by decide +kernel
theorem dX10_goesOut_7 : decode cX10_goesOut 7 = .ok (.iload_n 1, 1) := by decide +kernel
theorem dX10_goesOut_8 : decode cX10_goesOut 8 = .ok (.iadd, 1) := by decide +kernel
theorem dX10_goesOut_9 : decode cX10_goesOut 9 = .ok (.invokestatic 82, 3) := by decide +kernel
theorem dX10_goesOut_12 : decode cX10_goesOut 12 = .ok (.putfield 53, 3) := by decide +kernel
theorem dX10_goesOut_15 : decode cX10_goesOut 15 = .ok (.return_, 1) := by decide +kernel
theorem dX10_passNight_0 : decode cX10_passNight 0 = .ok (.iconst 0, 1) := by decide +kernel
theorem dX10_passNight_1 : decode cX10_passNight 1 = .ok (.istore_n 1, 1) := by decide +kernel
theorem dX10_passNight_2 : decode cX10_passNight 2 = .ok (.iload_n 1, 1) := by decide +kernel
theorem dX10_passNight_3 : decode cX10_passNight 3 = .ok (.bipush 25, 2) := by decide +kernel
theorem dX10_passNight_5 : decode cX10_passNight 5 = .ok (.if_icmp .ge 58, 3) := by decide +kernel
theorem dX10_passNight_8 : decode cX10_passNight 8 = .ok (.aload_n 0, 1) := by decide +kernel
theorem dX10_passNight_9 : decode cX10_passNight 9 = .ok (.iload_n 1, 1) := by decide +kernel
theorem dX10_passNight_10 : decode cX10_passNight 10 = .ok (.invokevirtual 74, 3) := by decide +kernel
theorem dX10_passNight_13 : decode cX10_passNight 13 = .ok (.ifCond .eq 50, 3) := by decide +kernel
theorem dX10_passNight_16 : decode cX10_passNight 16 = .ok (.aload_n 0, 1) := by decide +kernel
theorem dX10_passNight_17 : decode cX10_passNight 17 = .ok (.getfield 18, 3) := by decide +kernel
theorem dX10_passNight_20 : decode cX10_passNight 20 = .ok (.iload_n 1, 1) := by decide +kernel
theorem dX10_passNight_21 : decode cX10_passNight 21 = .ok (.iconst 0, 1) := by decide +kernel
theorem dX10_passNight_22 : decode cX10_passNight 22 = .ok (.aload_n 0, 1) := by decide +kernel
theorem dX10_passNight_23 : decode cX10_passNight 23 = .ok (.getfield 18, 3) := by decide +kernel
theorem dX10_passNight_26 : decode cX10_passNight 26 = .ok (.iload_n 1, 1) := by decide +kernel
theorem dX10_passNight_27 : decode cX10_passNight 27 = .ok (.iaload, 1) := by decide +kernel
theorem dX10_passNight_28 : decode cX10_passNight 28 = .ok (.aload_n 0, 1) := by decide +kernel
theorem dX10_passNight_29 : decode cX10_passNight 29 = .ok (.getfield 22, 3) := by decide +kernel
theorem dX10_passNight_32 : decode cX10_passNight 32 = .ok (.iload_n 1, 1) := by decide +kernel
theorem dX10_passNight_33 : decode cX10_passNight 33 = .ok (.iaload, 1) := by decide +kernel
theorem dX10_passNight_34 : decode cX10_passNight 34 = .ok (.isub, 1) := by decide +kernel
theorem dX10_passNight_35 : decode cX10_passNight 35 = .ok (.invokestatic 117, 3) := by decide +kernel
theorem dX10_passNight_38 : decode cX10_passNight 38 = .ok (.iastore, 1) := by decide +kernel
theorem dX10_passNight_39 : decode cX10_passNight 39 = .ok (.aload_n 0, 1) := by decide +kernel
theorem dX10_passNight_40 : decode cX10_passNight 40 = .ok (.getfield 22, 3) := by decide +kernel
theorem dX10_passNight_43 : decode cX10_passNight 43 = .ok (.iload_n 1, 1) := by decide +kernel
theorem dX10_passNight_44 : decode cX10_passNight 44 = .ok (.iconst 0, 1) := by decide +kernel
theorem dX10_passNight_45 : decode cX10_passNight 45 = .ok (.aload_n 0, 1) := by decide +kernel
theorem dX10_passNight_46 : decode cX10_passNight 46 = .ok (.getfield 22, 3) := by decide +kernel
theorem dX10_passNight_49 : decode cX10_passNight 49 = .ok (.iload_n 1, 1) := by decide +kernel
theorem dX10_passNight_50 : decode cX10_passNight 50 = .ok (.iaload, 1) := by decide +kernel
theorem dX10_passNight_51 : decode cX10_passNight 51 = .ok (.iconst 1, 1) := by decide +kernel
theorem dX10_passNight_52 : decode cX10_passNight 52 = .ok (.isub, 1) := by decide +kernel
theorem dX10_passNight_53 : decode cX10_passNight 53 = .ok (.invokestatic 117, 3) := by decide +kernel
theorem dX10_passNight_56 : decode cX10_passNight 56 = .ok (.iastore, 1) := by decide +kernel
theorem dX10_passNight_57 : decode cX10_passNight 57 = .ok (.iinc 1 1, 3) := by decide +kernel
theorem dX10_passNight_60 : decode cX10_passNight 60 = .ok (.goto (-58), 3) := by decide +kernel
theorem dX10_passNight_63 : decode cX10_passNight 63 = .ok (.aload_n 0, 1) := by decide +kernel
theorem dX10_passNight_64 : decode cX10_passNight 64 = .ok (.dup, 1) := by decide +kernel
theorem dX10_passNight_65 : decode cX10_passNight 65 = .ok (.getfield 56, 3) := by decide +kernel
theorem dX10_passNight_68 : decode cX10_passNight 68 = .ok (.iconst 1, 1) := by decide +kernel
theorem dX10_passNight_69 : decode cX10_passNight 69 = .ok (.iadd, 1) := by decide +kernel
theorem dX10_passNight_70 : decode cX10_passNight 70 = .ok (.putfield 56, 3) := by decide +kernel
theorem dX10_passNight_73 : decode cX10_passNight 73 = .ok (.return_, 1) := by decide +kernel
theorem dX10_allAir_0 : decode cX10_allAir 0 = .ok (.iconst 0, 1) := by decide +kernel
theorem dX10_allAir_1 : decode cX10_allAir 1 = .ok (.istore_n 1, 1) := by decide +kernel
theorem dX10_allAir_2 : decode cX10_allAir 2 = .ok (.iconst 0, 1) := by decide +kernel
theorem dX10_allAir_3 : decode cX10_allAir 3 = .ok (.istore_n 2, 1) := by decide +kernel
theorem dX10_allAir_4 : decode cX10_allAir 4 = .ok (.iload_n 2, 1) := by decide +kernel
theorem dX10_allAir_5 : decode cX10_allAir 5 = .ok (.bipush 25, 2) := by decide +kernel
theorem dX10_allAir_7 : decode cX10_allAir 7 = .ok (.if_icmp .ge 26, 3) := by decide +kernel
theorem dX10_allAir_10 : decode cX10_allAir 10 = .ok (.aload_n 0, 1) := by decide +kernel
theorem dX10_allAir_11 : decode cX10_allAir 11 = .ok (.iload_n 2, 1) := by decide +kernel
theorem dX10_allAir_12 : decode cX10_allAir 12 = .ok (.invokevirtual 74, 3) := by decide +kernel
theorem dX10_allAir_15 : decode cX10_allAir 15 = .ok (.ifCond .eq 18, 3) := by decide +kernel
theorem dX10_allAir_18 : decode cX10_allAir 18 = .ok (.iload_n 1, 1) := by decide +kernel
theorem dX10_allAir_19 : decode cX10_allAir 19 = .ok (.aload_n 0, 1) := by decide +kernel
theorem dX10_allAir_20 : decode cX10_allAir 20 = .ok (.getfield 18, 3) := by decide +kernel
theorem dX10_allAir_23 : decode cX10_allAir 23 = .ok (.iload_n 2, 1) := by decide +kernel
theorem dX10_allAir_24 : decode cX10_allAir 24 = .ok (.iaload, 1) := by decide +kernel
theorem dX10_allAir_25 : decode cX10_allAir 25 = .ok (.iadd, 1) := by decide +kernel
theorem dX10_allAir_26 : decode cX10_allAir 26 = .ok (.istore_n 1, 1) := by decide +kernel
theorem dX10_allAir_27 : decode cX10_allAir 27 = .ok (.iinc 2 1, 3) := by decide +kernel
theorem dX10_allAir_30 : decode cX10_allAir 30 = .ok (.goto (-26), 3) := by decide +kernel
theorem dX10_allAir_33 : decode cX10_allAir 33 = .ok (.iload_n 1, 1) := by decide +kernel
theorem dX10_allAir_34 : decode cX10_allAir 34 = .ok (.ireturn, 1) := by decide +kernel
theorem dX10_cellsWithAir_0 : decode cX10_cellsWithAir 0 = .ok (.iconst 0, 1) := by decide +kernel
theorem dX10_cellsWithAir_1 : decode cX10_cellsWithAir 1 = .ok (.istore_n 1, 1) := by decide +kernel
theorem dX10_cellsWithAir_2 : decode cX10_cellsWithAir 2 = .ok (.iconst 0, 1) := by decide +kernel
theorem dX10_cellsWithAir_3 : decode cX10_cellsWithAir 3 = .ok (.istore_n 2, 1) := by decide +kernel
theorem dX10_cellsWithAir_4 : decode cX10_cellsWithAir 4 = .ok (.iload_n 2, 1) := by decide +kernel
theorem dX10_cellsWithAir_5 : decode cX10_cellsWithAir 5 = .ok (.bipush 25, 2) := by decide +kernel
theorem dX10_cellsWithAir_7 : decode cX10_cellsWithAir 7 = .ok (.if_icmp .ge 29, 3) := by decide +kernel
theorem dX10_cellsWithAir_10 : decode cX10_cellsWithAir 10 = .ok (.aload_n 0, 1) := by decide +kernel
theorem dX10_cellsWithAir_11 : decode cX10_cellsWithAir 11 = .ok (.iload_n 2, 1) := by decide +kernel
theorem dX10_cellsWithAir_12 : decode cX10_cellsWithAir 12 = .ok (.invokevirtual 74, 3) := by decide +kernel
theorem dX10_cellsWithAir_15 : decode cX10_cellsWithAir 15 = .ok (.ifCond .eq 21, 3) := by decide +kernel
theorem dX10_cellsWithAir_18 : decode cX10_cellsWithAir 18 = .ok (.aload_n 0, 1) := by decide +kernel
theorem dX10_cellsWithAir_19 : decode cX10_cellsWithAir 19 = .ok (.getfield 18, 3) := by decide +kernel
theorem dX10_cellsWithAir_22 : decode cX10_cellsWithAir 22 = .ok (.iload_n 2, 1) := by decide +kernel
theorem dX10_cellsWithAir_23 : decode cX10_cellsWithAir 23 = .ok (.iaload, 1) := by decide +kernel
theorem dX10_cellsWithAir_24 : decode cX10_cellsWithAir 24 = .ok (.ifCond .le 6, 3) := by decide +kernel
theorem dX10_cellsWithAir_27 : decode cX10_cellsWithAir 27 = .ok (.iinc 1 1, 3) := by decide +kernel
theorem dX10_cellsWithAir_30 : decode cX10_cellsWithAir 30 = .ok (.iinc 2 1, 3) := by decide +kernel
theorem dX10_cellsWithAir_33 : decode cX10_cellsWithAir 33 = .ok (.goto (-29), 3) := by decide +kernel
theorem dX10_cellsWithAir_36 : decode cX10_cellsWithAir 36 = .ok (.iload_n 1, 1) := by decide +kernel
theorem dX10_cellsWithAir_37 : decode cX10_cellsWithAir 37 = .ok (.ireturn, 1) := by decide +kernel
theorem dX10_openBits_0 : decode cX10_openBits 0 = .ok (.iconst 0, 1) := by decide +kernel
theorem dX10_openBits_1 : decode cX10_openBits 1 = .ok (.istore_n 1, 1) := by decide +kernel
theorem dX10_openBits_2 : decode cX10_openBits 2 = .ok (.iconst 0, 1) := by decide +kernel
theorem dX10_openBits_3 : decode cX10_openBits 3 = .ok (.istore_n 2, 1) := by decide +kernel
theorem dX10_openBits_4 : decode cX10_openBits 4 = .ok (.iload_n 2, 1) := by decide +kernel
theorem dX10_openBits_5 : decode cX10_openBits 5 = .ok (.iconst 4, 1) := by decide +kernel
theorem dX10_openBits_6 : decode cX10_openBits 6 = .ok (.if_icmp .ge 20, 3) := by decide +kernel
theorem dX10_openBits_9 : decode cX10_openBits 9 = .ok (.iload_n 1, 1) := by decide +kernel
theorem dX10_openBits_10 : decode cX10_openBits 10 = .ok (.aload_n 0, 1) := by decide +kernel
theorem dX10_openBits_11 : decode cX10_openBits 11 = .ok (.getfield 25, 3) := by decide +kernel
theorem dX10_openBits_14 : decode cX10_openBits 14 = .ok (.iload_n 2, 1) := by decide +kernel
theorem dX10_openBits_15 : decode cX10_openBits 15 = .ok (.iaload, 1) := by decide +kernel
theorem dX10_openBits_16 : decode cX10_openBits 16 = .ok (.iload_n 2, 1) := by decide +kernel
theorem dX10_openBits_17 : decode cX10_openBits 17 = .ok (.ishl, 1) := by decide +kernel
theorem dX10_openBits_18 : decode cX10_openBits 18 = .ok (.ior, 1) := by decide +kernel
theorem dX10_openBits_19 : decode cX10_openBits 19 = .ok (.istore_n 1, 1) := by decide +kernel
theorem dX10_openBits_20 : decode cX10_openBits 20 = .ok (.iinc 2 1, 3) := by decide +kernel
theorem dX10_openBits_23 : decode cX10_openBits 23 = .ok (.goto (-19), 3) := by decide +kernel
theorem dX10_openBits_26 : decode cX10_openBits 26 = .ok (.iload_n 1, 1) := by decide +kernel
theorem dX10_openBits_27 : decode cX10_openBits 27 = .ok (.ireturn, 1) := by decide +kernel
theorem dX10_shownBy_0 : decode cX10_shownBy 0 = .ok (.iconst 0, 1) := by decide +kernel
theorem dX10_shownBy_1 : decode cX10_shownBy 1 = .ok (.istore_n 2, 1) := by decide +kernel
theorem dX10_shownBy_2 : decode cX10_shownBy 2 = .ok (.iconst 0, 1) := by decide +kernel
theorem dX10_shownBy_3 : decode cX10_shownBy 3 = .ok (.istore_n 3, 1) := by decide +kernel
theorem dX10_shownBy_4 : decode cX10_shownBy 4 = .ok (.iconst 0, 1) := by decide +kernel
theorem dX10_shownBy_5 : decode cX10_shownBy 5 = .ok (.istore 4, 2) := by decide +kernel
theorem dX10_shownBy_7 : decode cX10_shownBy 7 = .ok (.iload 4, 2) := by decide +kernel
theorem dX10_shownBy_9 : decode cX10_shownBy 9 = .ok (.aload_n 0, 1) := by decide +kernel
theorem dX10_shownBy_10 : decode cX10_shownBy 10 = .ok (.getfield 9, 3) := by decide +kernel
theorem dX10_shownBy_13 : decode cX10_shownBy 13 = .ok (.if_icmp .ge 55, 3) := by decide +kernel
theorem dX10_shownBy_16 : decode cX10_shownBy 16 = .ok (.iconst 0, 1) := by decide +kernel
theorem dX10_shownBy_17 : decode cX10_shownBy 17 = .ok (.istore 5, 2) := by decide +kernel
theorem dX10_shownBy_19 : decode cX10_shownBy 19 = .ok (.iload 5, 2) := by decide +kernel
theorem dX10_shownBy_21 : decode cX10_shownBy 21 = .ok (.aload_n 0, 1) := by decide +kernel
theorem dX10_shownBy_22 : decode cX10_shownBy 22 = .ok (.getfield 15, 3) := by decide +kernel
theorem dX10_shownBy_25 : decode cX10_shownBy 25 = .ok (.if_icmp .ge 37, 3) := by decide +kernel
theorem dX10_shownBy_28 : decode cX10_shownBy 28 = .ok (.aload_n 0, 1) := by decide +kernel
theorem dX10_shownBy_29 : decode cX10_shownBy 29 = .ok (.iload_n 3, 1) := by decide +kernel
theorem dX10_shownBy_30 : decode cX10_shownBy 30 = .ok (.invokevirtual 74, 3) := by decide +kernel
theorem dX10_shownBy_33 : decode cX10_shownBy 33 = .ok (.ifCond .eq 29, 3) := by decide +kernel
theorem dX10_shownBy_36 : decode cX10_shownBy 36 = .ok (.iload_n 2, 1) := by decide +kernel
theorem dX10_shownBy_37 : decode cX10_shownBy 37 = .ok (.aload_n 1, 1) := by decide +kernel
theorem dX10_shownBy_38 : decode cX10_shownBy 38 = .ok (.aload_n 0, 1) := by decide +kernel
theorem dX10_shownBy_39 : decode cX10_shownBy 39 = .ok (.getfield 18, 3) := by decide +kernel
theorem dX10_shownBy_42 : decode cX10_shownBy 42 = .ok (.iload_n 3, 1) := by decide +kernel
theorem dX10_shownBy_43 : decode cX10_shownBy 43 = .ok (.iaload, 1) := by decide +kernel
theorem dX10_shownBy_44 : decode cX10_shownBy 44 = .ok (.iload 4, 2) := by decide +kernel
theorem dX10_shownBy_46 : decode cX10_shownBy 46 = .ok (.iload 5, 2) := by decide +kernel
theorem dX10_shownBy_48 : decode cX10_shownBy 48 = .ok (.invokevirtual 102, 3) := by decide +kernel
theorem dX10_shownBy_51 : decode cX10_shownBy 51 = .ok (.iadd, 1) := by decide +kernel
theorem dX10_shownBy_52 : decode cX10_shownBy 52 = .ok (.istore_n 2, 1) := by decide +kernel
theorem dX10_shownBy_53 : decode cX10_shownBy 53 = .ok (.iinc 3 1, 3) := by decide +kernel
theorem dX10_shownBy_56 : decode cX10_shownBy 56 = .ok (.iinc 5 1, 3) := by decide +kernel
theorem dX10_shownBy_59 : decode cX10_shownBy 59 = .ok (.goto (-40), 3) := by decide +kernel
theorem dX10_shownBy_62 : decode cX10_shownBy 62 = .ok (.iinc 4 1, 3) := by decide +kernel
theorem dX10_shownBy_65 : decode cX10_shownBy 65 = .ok (.goto (-58), 3) := by decide +kernel
theorem dX10_shownBy_68 : decode cX10_shownBy 68 = .ok (.iload_n 2, 1) := by decide +kernel
theorem dX10_shownBy_69 : decode cX10_shownBy 69 = .ok (.ireturn, 1) := by decide +kernel
theorem dX10_isLit_0 : decode cX10_isLit 0 = .ok (.aload_n 0, 1) := by decide +kernel
theorem dX10_isLit_1 : decode cX10_isLit 1 = .ok (.iload_n 1, 1) := by decide +kernel
theorem dX10_isLit_2 : decode cX10_isLit 2 = .ok (.iload_n 2, 1) := by decide +kernel
theorem dX10_isLit_3 : decode cX10_isLit 3 = .ok (.invokevirtual 111, 3) := by decide +kernel
theorem dX10_isLit_6 : decode cX10_isLit 6 = .ok (.istore_n 3, 1) := by decide +kernel
theorem dX10_isLit_7 : decode cX10_isLit 7 = .ok (.iconst 0, 1) := by decide +kernel
theorem dX10_isLit_8 : decode cX10_isLit 8 = .ok (.istore 4, 2) := by decide +kernel
theorem dX10_isLit_10 : decode cX10_isLit 10 = .ok (.iload 4, 2) := by decide +kernel
theorem dX10_isLit_12 : decode cX10_isLit 12 = .ok (.iconst 5, 1) := by decide +kernel
theorem dX10_isLit_13 : decode cX10_isLit 13 = .ok (.if_icmp .ge 41, 3) := by decide +kernel
theorem dX10_isLit_16 : decode cX10_isLit 16 = .ok (.aload_n 0, 1) := by decide +kernel
theorem dX10_isLit_17 : decode cX10_isLit 17 = .ok (.iload_n 3, 1) := by decide +kernel
theorem dX10_isLit_18 : decode cX10_isLit 18 = .ok (.invokevirtual 74, 3) := by decide +kernel
theorem dX10_isLit_21 : decode cX10_isLit 21 = .ok (.ifCond .eq 33, 3) := by decide +kernel
theorem dX10_isLit_24 : decode cX10_isLit 24 = .ok (.aload_n 0, 1) := by decide +kernel
theorem dX10_isLit_25 : decode cX10_isLit 25 = .ok (.getfield 18, 3) := by decide +kernel
theorem dX10_isLit_28 : decode cX10_isLit 28 = .ok (.iload_n 3, 1) := by decide +kernel
theorem dX10_isLit_29 : decode cX10_isLit 29 = .ok (.iaload, 1) := by decide +kernel
theorem dX10_isLit_30 : decode cX10_isLit 30 = .ok (.aload_n 0, 1) := by decide +kernel
theorem dX10_isLit_31 : decode cX10_isLit 31 = .ok (.getfield 18, 3) := by decide +kernel
theorem dX10_isLit_34 : decode cX10_isLit 34 = .ok (.iload_n 1, 1) := by decide +kernel
theorem dX10_isLit_35 : decode cX10_isLit 35 = .ok (.iaload, 1) := by decide +kernel
theorem dX10_isLit_36 : decode cX10_isLit 36 = .ok (.if_icmp .lt 5, 3) := by decide +kernel
theorem dX10_isLit_39 : decode cX10_isLit 39 = .ok (.iconst 0, 1) := by decide +kernel
theorem dX10_isLit_40 : decode cX10_isLit 40 = .ok (.ireturn, 1) := by decide +kernel
theorem dX10_isLit_41 : decode cX10_isLit 41 = .ok (.aload_n 0, 1) := by decide +kernel
theorem dX10_isLit_42 : decode cX10_isLit 42 = .ok (.iload_n 3, 1) := by decide +kernel
theorem dX10_isLit_43 : decode cX10_isLit 43 = .ok (.iload_n 2, 1) := by decide +kernel
theorem dX10_isLit_44 : decode cX10_isLit 44 = .ok (.invokevirtual 111, 3) := by decide +kernel
theorem dX10_isLit_47 : decode cX10_isLit 47 = .ok (.istore_n 3, 1) := by decide +kernel
theorem dX10_isLit_48 : decode cX10_isLit 48 = .ok (.iinc 4 1, 3) := by decide +kernel
theorem dX10_isLit_51 : decode cX10_isLit 51 = .ok (.goto (-41), 3) := by decide +kernel
theorem dX10_isLit_54 : decode cX10_isLit 54 = .ok (.aload_n 0, 1) := by decide +kernel
theorem dX10_isLit_55 : decode cX10_isLit 55 = .ok (.getfield 18, 3) := by decide +kernel
theorem dX10_isLit_58 : decode cX10_isLit 58 = .ok (.iload_n 1, 1) := by decide +kernel
theorem dX10_isLit_59 : decode cX10_isLit 59 = .ok (.iaload, 1) := by decide +kernel
theorem dX10_isLit_60 : decode cX10_isLit 60 = .ok (.ifCond .le 7, 3) := by decide +kernel
theorem dX10_isLit_63 : decode cX10_isLit 63 = .ok (.iconst 1, 1) := by decide +kernel
theorem dX10_isLit_64 : decode cX10_isLit 64 = .ok (.goto 4, 3) := by decide +kernel
theorem dX10_isLit_67 : decode cX10_isLit 67 = .ok (.iconst 0, 1) := by decide +kernel
theorem dX10_isLit_68 : decode cX10_isLit 68 = .ok (.ireturn, 1) := by decide +kernel
theorem dX10_sizeOfBubble_0 : decode cX10_sizeOfBubble 0 = .ok (.aload_n 0, 1) := by decide +kernel
theorem dX10_sizeOfBubble_1 : decode cX10_sizeOfBubble 1 = .ok (.getfield 28, 3) := by decide +kernel
theorem dX10_sizeOfBubble_4 : decode cX10_sizeOfBubble 4 = .ok (.iconst 0, 1) := by decide +kernel
theorem dX10_sizeOfBubble_5 : decode cX10_sizeOfBubble 5 = .ok (.invokestatic 34, 3) := by decide +kernel
theorem dX10_sizeOfBubble_8 : decode cX10_sizeOfBubble 8 = .ok (.aload_n 0, 1) := by decide +kernel
theorem dX10_sizeOfBubble_9 : decode cX10_sizeOfBubble 9 = .ok (.iload_n 1, 1) := by decide +kernel
theorem dX10_sizeOfBubble_10 : decode cX10_sizeOfBubble 10 = .ok (.invokevirtual 120, 3) := by decide +kernel
theorem dX10_sizeOfBubble_13 : decode cX10_sizeOfBubble 13 = .ok (.ireturn, 1) := by decide +kernel
theorem dX10_countBubbles_0 : decode cX10_countBubbles 0 = .ok (.aload_n 0, 1) := by decide +kernel
theorem dX10_countBubbles_1 : decode cX10_countBubbles 1 = .ok (.getfield 28, 3) := by decide +kernel
theorem dX10_countBubbles_4 : decode cX10_countBubbles 4 = .ok (.iconst 0, 1) := by decide +kernel
theorem dX10_countBubbles_5 : decode cX10_countBubbles 5 = .ok (.invokestatic 34, 3) := by decide +kernel
theorem dX10_countBubbles_8 : decode cX10_countBubbles 8 = .ok (.iconst 0, 1) := by decide +kernel
theorem dX10_countBubbles_9 : decode cX10_countBubbles 9 = .ok (.istore_n 1, 1) := by decide +kernel
theorem dX10_countBubbles_10 : decode cX10_countBubbles 10 = .ok (.iconst 0, 1) := by decide +kernel
theorem dX10_countBubbles_11 : decode cX10_countBubbles 11 = .ok (.istore_n 2, 1) := by decide +kernel
theorem dX10_countBubbles_12 : decode cX10_countBubbles 12 = .ok (.iload_n 2, 1) := by decide +kernel
theorem dX10_countBubbles_13 : decode cX10_countBubbles 13 = .ok (.bipush 25, 2) := by decide +kernel
theorem dX10_countBubbles_15 : decode cX10_countBubbles 15 = .ok (.if_icmp .ge 28, 3) := by decide +kernel
theorem dX10_countBubbles_18 : decode cX10_countBubbles 18 = .ok (.aload_n 0, 1) := by decide +kernel
theorem dX10_countBubbles_19 : decode cX10_countBubbles 19 = .ok (.iload_n 2, 1) := by decide +kernel
theorem dX10_countBubbles_20 : decode cX10_countBubbles 20 = .ok (.invokevirtual 74, 3) := by decide +kernel
theorem dX10_countBubbles_23 : decode cX10_countBubbles 23 = .ok (.ifCond .eq 20, 3) := by decide +kernel
theorem dX10_countBubbles_26 : decode cX10_countBubbles 26 = .ok (.aload_n 0, 1) := by decide +kernel
theorem dX10_countBubbles_27 : decode cX10_countBubbles 27 = .ok (.iload_n 2, 1) := by decide +kernel
theorem dX10_countBubbles_28 : decode cX10_countBubbles 28 = .ok (.invokevirtual 120, 3) := by decide +kernel
theorem dX10_countBubbles_31 : decode cX10_countBubbles 31 = .ok (.ifCond .le 6, 3) := by decide +kernel
theorem dX10_countBubbles_34 : decode cX10_countBubbles 34 = .ok (.iinc 1 1, 3) := by decide +kernel
theorem dX10_countBubbles_37 : decode cX10_countBubbles 37 = .ok (.iinc 2 1, 3) := by decide +kernel
theorem dX10_countBubbles_40 : decode cX10_countBubbles 40 = .ok (.goto (-28), 3) := by decide +kernel
theorem dX10_countBubbles_43 : decode cX10_countBubbles 43 = .ok (.iload_n 1, 1) := by decide +kernel
theorem dX10_countBubbles_44 : decode cX10_countBubbles 44 = .ok (.ireturn, 1) := by decide +kernel
theorem dX10_cellOfBiggest_0 : decode cX10_cellOfBiggest 0 = .ok (.aload_n 0, 1) := by decide +kernel
theorem dX10_cellOfBiggest_1 : decode cX10_cellOfBiggest 1 = .ok (.getfield 28, 3) := by decide +kernel
theorem dX10_cellOfBiggest_4 : decode cX10_cellOfBiggest 4 = .ok (.iconst 0, 1) := by decide +kernel
theorem dX10_cellOfBiggest_5 : decode cX10_cellOfBiggest 5 = .ok (.invokestatic 34, 3) := by decide +kernel
theorem dX10_cellOfBiggest_8 : decode cX10_cellOfBiggest 8 = .ok (.iconst 0, 1) := by decide +kernel
theorem dX10_cellOfBiggest_9 : decode cX10_cellOfBiggest 9 = .ok (.istore_n 1, 1) := by decide +kernel
theorem dX10_cellOfBiggest_10 : decode cX10_cellOfBiggest 10 = .ok (.iconst (-1), 1) := by decide +kernel
theorem dX10_cellOfBiggest_11 : decode cX10_cellOfBiggest 11 = .ok (.istore_n 2, 1) := by decide +kernel
theorem dX10_cellOfBiggest_12 : decode cX10_cellOfBiggest 12 = .ok (.iconst 0, 1) := by decide +kernel
theorem dX10_cellOfBiggest_13 : decode cX10_cellOfBiggest 13 = .ok (.istore_n 3, 1) := by decide +kernel
theorem dX10_cellOfBiggest_14 : decode cX10_cellOfBiggest 14 = .ok (.iload_n 3, 1) := by decide +kernel
theorem dX10_cellOfBiggest_15 : decode cX10_cellOfBiggest 15 = .ok (.bipush 25, 2) := by decide +kernel
theorem dX10_cellOfBiggest_17 : decode cX10_cellOfBiggest 17 = .ok (.if_icmp .ge 35, 3) := by decide +kernel
theorem dX10_cellOfBiggest_20 : decode cX10_cellOfBiggest 20 = .ok (.aload_n 0, 1) := by decide +kernel
theorem dX10_cellOfBiggest_21 : decode cX10_cellOfBiggest 21 = .ok (.iload_n 3, 1) := by decide +kernel
theorem dX10_cellOfBiggest_22 : decode cX10_cellOfBiggest 22 = .ok (.invokevirtual 74, 3) := by decide +kernel
theorem dX10_cellOfBiggest_25 : decode cX10_cellOfBiggest 25 = .ok (.ifCond .eq 27, 3) := by decide +kernel
theorem dX10_cellOfBiggest_28 : decode cX10_cellOfBiggest 28 = .ok (.aload_n 0, 1) := by decide +kernel
theorem dX10_cellOfBiggest_29 : decode cX10_cellOfBiggest 29 = .ok (.iload_n 3, 1) := by decide +kernel
theorem dX10_cellOfBiggest_30 : decode cX10_cellOfBiggest 30 = .ok (.invokevirtual 120, 3) := by decide +kernel
theorem dX10_cellOfBiggest_33 : decode cX10_cellOfBiggest 33 = .ok (.istore 4, 2) := by decide +kernel
theorem dX10_cellOfBiggest_35 : decode cX10_cellOfBiggest 35 = .ok (.iload 4, 2) := by decide +kernel
theorem dX10_cellOfBiggest_37 : decode cX10_cellOfBiggest 37 = .ok (.iload_n 1, 1) := by decide +kernel
theorem dX10_cellOfBiggest_38 : decode cX10_cellOfBiggest 38 = .ok (.if_icmp .le 8, 3) := by decide +kernel
theorem dX10_cellOfBiggest_41 : decode cX10_cellOfBiggest 41 = .ok (.iload 4, 2) := by decide +kernel
theorem dX10_cellOfBiggest_43 : decode cX10_cellOfBiggest 43 = .ok (.istore_n 1, 1) := by decide +kernel
theorem dX10_cellOfBiggest_44 : decode cX10_cellOfBiggest 44 = .ok (.iload_n 3, 1) := by decide +kernel
theorem dX10_cellOfBiggest_45 : decode cX10_cellOfBiggest 45 = .ok (.istore_n 2, 1) := by decide +kernel
theorem dX10_cellOfBiggest_46 : decode cX10_cellOfBiggest 46 = .ok (.iinc 3 1, 3) := by decide +kernel
theorem dX10_cellOfBiggest_49 : decode cX10_cellOfBiggest 49 = .ok (.goto (-35), 3) := by decide +kernel
theorem dX10_cellOfBiggest_52 : decode cX10_cellOfBiggest 52 = .ok (.iload_n 2, 1) := by decide +kernel
theorem dX10_cellOfBiggest_53 : decode cX10_cellOfBiggest 53 = .ok (.ireturn, 1) := by decide +kernel
theorem dX10_meetBubble_0 : decode cX10_meetBubble 0 = .ok (.aload_n 0, 1) := by decide +kernel
theorem dX10_meetBubble_1 : decode cX10_meetBubble 1 = .ok (.iconst 0, 1) := by decide +kernel
theorem dX10_meetBubble_2 : decode cX10_meetBubble 2 = .ok (.putfield 123, 3) := by decide +kernel
theorem dX10_meetBubble_5 : decode cX10_meetBubble 5 = .ok (.aload_n 0, 1) := by decide +kernel
theorem dX10_meetBubble_6 : decode cX10_meetBubble 6 = .ok (.iload_n 1, 1) := by decide +kernel
theorem dX10_meetBubble_7 : decode cX10_meetBubble 7 = .ok (.invokevirtual 126, 3) := by decide +kernel
theorem dX10_meetBubble_10 : decode cX10_meetBubble 10 = .ok (.iconst 0, 1) := by decide +kernel
theorem dX10_meetBubble_11 : decode cX10_meetBubble 11 = .ok (.istore_n 2, 1) := by decide +kernel
theorem dX10_meetBubble_12 : decode cX10_meetBubble 12 = .ok (.iconst 0, 1) := by decide +kernel
theorem dX10_meetBubble_13 : decode cX10_meetBubble 13 = .ok (.istore_n 3, 1) := by decide +kernel
theorem dX10_meetBubble_14 : decode cX10_meetBubble 14 = .ok (.iload_n 3, 1) := by decide +kernel
theorem dX10_meetBubble_15 : decode cX10_meetBubble 15 = .ok (.aload_n 0, 1) := by decide +kernel
theorem dX10_meetBubble_16 : decode cX10_meetBubble 16 = .ok (.getfield 123, 3) := by decide +kernel
theorem dX10_meetBubble_19 : decode cX10_meetBubble 19 = .ok (.if_icmp .ge 60, 3) := by decide +kernel
theorem dX10_meetBubble_22 : decode cX10_meetBubble 22 = .ok (.iload_n 3, 1) := by decide +kernel
theorem dX10_meetBubble_23 : decode cX10_meetBubble 23 = .ok (.bipush 25, 2) := by decide +kernel
theorem dX10_meetBubble_25 : decode cX10_meetBubble 25 = .ok (.if_icmp .ge 54, 3) := by decide +kernel
theorem dX10_meetBubble_28 : decode cX10_meetBubble 28 = .ok (.iload_n 2, 1) := by decide +kernel
theorem dX10_meetBubble_29 : decode cX10_meetBubble 29 = .ok (.aload_n 0, 1) := by decide +kernel
theorem dX10_meetBubble_30 : decode cX10_meetBubble 30 = .ok (.getfield 18, 3) := by decide +kernel
theorem dX10_meetBubble_33 : decode cX10_meetBubble 33 = .ok (.aload_n 0, 1) := by decide +kernel
theorem dX10_meetBubble_34 : decode cX10_meetBubble 34 = .ok (.getfield 31, 3) := by decide +kernel
theorem dX10_meetBubble_37 : decode cX10_meetBubble 37 = .ok (.iload_n 3, 1) := by decide +kernel
theorem dX10_meetBubble_38 : decode cX10_meetBubble 38 = .ok (.iaload, 1) := by decide +kernel
theorem dX10_meetBubble_39 : decode cX10_meetBubble 39 = .ok (.iaload, 1) := by decide +kernel
theorem dX10_meetBubble_40 : decode cX10_meetBubble 40 = .ok (.iadd, 1) := by decide +kernel
theorem dX10_meetBubble_41 : decode cX10_meetBubble 41 = .ok (.istore_n 2, 1) := by decide +kernel
theorem dX10_meetBubble_42 : decode cX10_meetBubble 42 = .ok (.iconst 0, 1) := by decide +kernel
theorem dX10_meetBubble_43 : decode cX10_meetBubble 43 = .ok (.istore 4, 2) := by decide +kernel
theorem dX10_meetBubble_45 : decode cX10_meetBubble 45 = .ok (.iload 4, 2) := by decide +kernel
theorem dX10_meetBubble_47 : decode cX10_meetBubble 47 = .ok (.iconst 4, 1) := by decide +kernel
theorem dX10_meetBubble_48 : decode cX10_meetBubble 48 = .ok (.if_icmp .ge 25, 3) := by decide +kernel
theorem dX10_meetBubble_51 : decode cX10_meetBubble 51 = .ok (.aload_n 0, 1) := by decide +kernel
theorem dX10_meetBubble_52 : decode cX10_meetBubble 52 = .ok (.aload_n 0, 1) := by decide +kernel
theorem dX10_meetBubble_53 : decode cX10_meetBubble 53 = .ok (.aload_n 0, 1) := by decide +kernel
theorem dX10_meetBubble_54 : decode cX10_meetBubble 54 = .ok (.getfield 31, 3) := by decide +kernel
theorem dX10_meetBubble_57 : decode cX10_meetBubble 57 = .ok (.iload_n 3, 1) := by decide +kernel
theorem dX10_meetBubble_58 : decode cX10_meetBubble 58 = .ok (.iaload, 1) := by decide +kernel
theorem dX10_meetBubble_59 : decode cX10_meetBubble 59 = .ok (.iload 4, 2) := by decide +kernel
theorem dX10_meetBubble_61 : decode cX10_meetBubble 61 = .ok (.invokevirtual 111, 3) := by decide +kernel
theorem dX10_meetBubble_64 : decode cX10_meetBubble 64 = .ok (.invokevirtual 126, 3) := by decide +kernel
theorem dX10_meetBubble_67 : decode cX10_meetBubble 67 = .ok (.iinc 4 1, 3) := by decide +kernel
theorem dX10_meetBubble_70 : decode cX10_meetBubble 70 = .ok (.goto (-25), 3) := by decide +kernel
theorem dX10_meetBubble_73 : decode cX10_meetBubble 73 = .ok (.iinc 3 1, 3) := by decide +kernel
theorem dX10_meetBubble_76 : decode cX10_meetBubble 76 = .ok (.goto (-62), 3) := by decide +kernel
theorem dX10_meetBubble_79 : decode cX10_meetBubble 79 = .ok (.iload_n 2, 1) := by decide +kernel
theorem dX10_meetBubble_80 : decode cX10_meetBubble 80 = .ok (.ireturn, 1) := by decide +kernel
theorem dX10_meet_0 : decode cX10_meet 0 = .ok (.aload_n 0, 1) := by decide +kernel
theorem dX10_meet_1 : decode cX10_meet 1 = .ok (.iload_n 1, 1) := by decide +kernel
theorem dX10_meet_2 : decode cX10_meet 2 = .ok (.invokevirtual 74, 3) := by decide +kernel
theorem dX10_meet_5 : decode cX10_meet 5 = .ok (.ifCond .eq 57, 3) := by decide +kernel
theorem dX10_meet_8 : decode cX10_meet 8 = .ok (.aload_n 0, 1) := by decide +kernel
theorem dX10_meet_9 : decode cX10_meet 9 = .ok (.getfield 18, 3) := by decide +kernel
theorem dX10_meet_12 : decode cX10_meet 12 = .ok (.iload_n 1, 1) := by decide +kernel
theorem dX10_meet_13 : decode cX10_meet 13 = .ok (.iaload, 1) := by decide +kernel
theorem dX10_meet_14 : decode cX10_meet 14 = .ok (.ifCond .le 48, 3) := by decide +kernel
theorem dX10_meet_17 : decode cX10_meet 17 = .ok (.aload_n 0, 1) := by decide +kernel
theorem dX10_meet_18 : decode cX10_meet 18 = .ok (.getfield 28, 3) := by decide +kernel
theorem dX10_meet_21 : decode cX10_meet 21 = .ok (.iload_n 1, 1) := by decide +kernel
theorem dX10_meet_22 : decode cX10_meet 22 = .ok (.iaload, 1) := by decide +kernel
theorem dX10_meet_23 : decode cX10_meet 23 = .ok (.ifCond .ne 39, 3) := by decide +kernel
theorem dX10_meet_26 : decode cX10_meet 26 = .ok (.aload_n 0, 1) := by decide +kernel
theorem dX10_meet_27 : decode cX10_meet 27 = .ok (.getfield 123, 3) := by decide +kernel
theorem dX10_meet_30 : decode cX10_meet 30 = .ok (.bipush 25, 2) := by decide +kernel
theorem dX10_meet_32 : decode cX10_meet 32 = .ok (.if_icmp .ge 30, 3) := by decide +kernel
theorem dX10_meet_35 : decode cX10_meet 35 = .ok (.aload_n 0, 1) := by decide +kernel
theorem dX10_meet_36 : decode cX10_meet 36 = .ok (.getfield 28, 3) := by decide +kernel
theorem dX10_meet_39 : decode cX10_meet 39 = .ok (.iload_n 1, 1) := by decide +kernel
theorem dX10_meet_40 : decode cX10_meet 40 = .ok (.iconst 1, 1) := by decide +kernel
theorem dX10_meet_41 : decode cX10_meet 41 = .ok (.iastore, 1) := by decide +kernel
theorem dX10_meet_42 : decode cX10_meet 42 = .ok (.aload_n 0, 1) := by decide +kernel
theorem dX10_meet_43 : decode cX10_meet 43 = .ok (.getfield 31, 3) := by decide +kernel
theorem dX10_meet_46 : decode cX10_meet 46 = .ok (.aload_n 0, 1) := by decide +kernel
theorem dX10_meet_47 : decode cX10_meet 47 = .ok (.getfield 123, 3) := by decide +kernel
theorem dX10_meet_50 : decode cX10_meet 50 = .ok (.iload_n 1, 1) := by decide +kernel
theorem dX10_meet_51 : decode cX10_meet 51 = .ok (.iastore, 1) := by decide +kernel
theorem dX10_meet_52 : decode cX10_meet 52 = .ok (.aload_n 0, 1) := by decide +kernel
theorem dX10_meet_53 : decode cX10_meet 53 = .ok (.dup, 1) := by decide +kernel
theorem dX10_meet_54 : decode cX10_meet 54 = .ok (.getfield 123, 3) := by decide +kernel
theorem dX10_meet_57 : decode cX10_meet 57 = .ok (.iconst 1, 1) := by decide +kernel
theorem dX10_meet_58 : decode cX10_meet 58 = .ok (.iadd, 1) := by decide +kernel
theorem dX10_meet_59 : decode cX10_meet 59 = .ok (.putfield 123, 3) := by decide +kernel
theorem dX10_meet_62 : decode cX10_meet 62 = .ok (.return_, 1) := by decide +kernel
theorem dX11_wall_0 : decode cX11_wall 0 = .ok (.iload_n 1, 1) := by decide +kernel
theorem dX11_wall_1 : decode cX11_wall 1 = .ok (.iconst 1, 1) := by decide +kernel
theorem dX11_wall_2 : decode cX11_wall 2 = .ok (.iconst 5, 1) := by decide +kernel
theorem dX11_wall_3 : decode cX11_wall 3 = .ok (.invokestatic 78, 3) := by decide +kernel
theorem dX11_wall_6 : decode cX11_wall 6 = .ok (.ifCond .eq 12, 3) := by decide +kernel
theorem dX11_wall_9 : decode cX11_wall 9 = .ok (.iload_n 2, 1) := by decide +kernel
theorem dX11_wall_10 : decode cX11_wall 10 = .ok (.iconst 1, 1) := by decide +kernel
theorem dX11_wall_11 : decode cX11_wall 11 = .ok (.iconst 5, 1) := by decide +kernel
theorem dX11_wall_12 : decode cX11_wall 12 = .ok (.invokestatic 78, 3) := by decide +kernel
theorem dX11_wall_15 : decode cX11_wall 15 = .ok (.ifCond .ne 9, 3) := by decide +kernel
theorem dX11_wall_18 : decode cX11_wall 18 = .ok (.aload_n 0, 1) := by decide +kernel
theorem dX11_wall_19 : decode cX11_wall 19 = .ok (.iconst 1, 1) := by decide +kernel
theorem dX11_wall_20 : decode cX11_wall 20 = .ok (.invokevirtual 82, 3) := by decide +kernel
theorem dX11_wall_23 : decode cX11_wall 23 = .ok (.ireturn, 1) := by decide +kernel
theorem dX11_wall_24 : decode cX11_wall 24 = .ok (.aload_n 0, 1) := by decide +kernel
theorem dX11_wall_25 : decode cX11_wall 25 = .ok (.getfield 14, 3) := by decide +kernel
theorem dX11_wall_28 : decode cX11_wall 28 = .ok (.getfield 86, 3) := by decide +kernel
theorem dX11_wall_31 : decode cX11_wall 31 = .ok (.iload_n 1, 1) := by decide +kernel
theorem dX11_wall_32 : decode cX11_wall 32 = .ok (.iload_n 2, 1) := by decide +kernel
theorem dX11_wall_33 : decode cX11_wall 33 = .ok (.invokevirtual 89, 3) := by decide +kernel
theorem dX11_wall_36 : decode cX11_wall 36 = .ok (.aload_n 0, 1) := by decide +kernel
theorem dX11_wall_37 : decode cX11_wall 37 = .ok (.getfield 14, 3) := by decide +kernel
theorem dX11_wall_40 : decode cX11_wall 40 = .ok (.getfield 86, 3) := by decide +kernel
theorem dX11_wall_43 : decode cX11_wall 43 = .ok (.invokevirtual 93, 3) := by decide +kernel
theorem dX11_wall_46 : decode cX11_wall 46 = .ok (.ireturn, 1) := by decide +kernel
theorem dX11_set_0 : decode cX11_set 0 = .ok (.aload_n 0, 1) := by decide +kernel
theorem dX11_set_1 : decode cX11_set 1 = .ok (.iload_n 1, 1) := by decide +kernel
theorem dX11_set_2 : decode cX11_set 2 = .ok (.invokevirtual 97, 3) := by decide +kernel
theorem dX11_set_5 : decode cX11_set 5 = .ok (.ifCond .eq 31, 3) := by decide +kernel
theorem dX11_set_8 : decode cX11_set 8 = .ok (.iload_n 2, 1) := by decide +kernel
theorem dX11_set_9 : decode cX11_set 9 = .ok (.iconst 0, 1) := by decide +kernel
theorem dX11_set_10 : decode cX11_set 10 = .ok (.iconst 1, 1) := by decide +kernel
theorem dX11_set_11 : decode cX11_set 11 = .ok (.invokestatic 78, 3) := by decide +kernel
theorem dX11_set_14 : decode cX11_set 14 = .ok (.ifCond .eq 22, 3) := by decide +kernel
theorem dX11_set_17 : decode cX11_set 17 = .ok (.iload_n 3, 1) := by decide +kernel
theorem dX11_set_18 : decode cX11_set 18 = .ok (.iconst 0, 1) := by decide +kernel
theorem dX11_set_19 : decode cX11_set 19 = .ok (.iload_n 2, 1) := by decide +kernel
theorem dX11_set_20 : decode cX11_set 20 = .ok (.ifCond .ne 8, 3) := by decide +kernel
theorem dX11_set_23 : decode cX11_set 23 = .ok (.bipush 99, 2) := by decide +kernel
theorem dX11_set_25 : decode cX11_set 25 = .ok (.goto 5, 3) := by decide +kernel
theorem dX11_set_28 : decode cX11_set 28 = .ok (.bipush 9, 2) := by decide +kernel
theorem dX11_set_30 : decode cX11_set 30 = .ok (.invokestatic 78, 3) := by decide +kernel
theorem dX11_set_33 : decode cX11_set 33 = .ok (.ifCond .ne 9, 3) := by decide +kernel
theorem dX11_set_36 : decode cX11_set 36 = .ok (.aload_n 0, 1) := by decide +kernel
theorem dX11_set_37 : decode cX11_set 37 = .ok (.iconst 1, 1) := by decide +kernel
theorem dX11_set_38 : decode cX11_set 38 = .ok (.invokevirtual 82, 3) := by decide +kernel
theorem dX11_set_41 : decode cX11_set 41 = .ok (.ireturn, 1) := by decide +kernel
theorem dX11_set_42 : decode cX11_set 42 = .ok (.iload_n 2, 1) := by decide +kernel
theorem dX11_set_43 : decode cX11_set 43 = .ok (.ifCond .ne 16, 3) := by decide +kernel
theorem dX11_set_46 : decode cX11_set 46 = .ok (.aload_n 0, 1) := by decide +kernel
theorem dX11_set_47 : decode cX11_set 47 = .ok (.getfield 14, 3) := by decide +kernel
theorem dX11_set_50 : decode cX11_set 50 = .ok (.getfield 86, 3) := by decide +kernel
theorem dX11_set_53 : decode cX11_set 53 = .ok (.getfield 101, 3) := by decide +kernel
theorem dX11_set_56 : decode cX11_set 56 = .ok (.goto 13, 3) := by decide +kernel
theorem dX11_set_59 : decode cX11_set 59 = .ok (.aload_n 0, 1) := by decide +kernel
theorem dX11_set_60 : decode cX11_set 60 = .ok (.getfield 14, 3) := by decide +kernel
theorem dX11_set_63 : decode cX11_set 63 = .ok (.getfield 86, 3) := by decide +kernel
theorem dX11_set_66 : decode cX11_set 66 = .ok (.getfield 104, 3) := by decide +kernel
theorem dX11_set_69 : decode cX11_set 69 = .ok (.astore 4, 2) := by decide +kernel
theorem dX11_set_71 : decode cX11_set 71 = .ok (.aload 4, 2) := by decide +kernel
theorem dX11_set_73 : decode cX11_set 73 = .ok (.iload_n 1, 1) := by decide +kernel
theorem dX11_set_74 : decode cX11_set 74 = .ok (.iaload, 1) := by decide +kernel
theorem dX11_set_75 : decode cX11_set 75 = .ok (.istore 5, 2) := by decide +kernel
theorem dX11_set_77 : decode cX11_set 77 = .ok (.aload 4, 2) := by decide +kernel
theorem dX11_set_79 : decode cX11_set 79 = .ok (.iload_n 1, 1) := by decide +kernel
theorem dX11_set_80 : decode cX11_set 80 = .ok (.iload_n 3, 1) := by decide +kernel
theorem dX11_set_81 : decode cX11_set 81 = .ok (.iastore, 1) := by decide +kernel
theorem dX11_set_82 : decode cX11_set 82 = .ok (.iload 5, 2) := by decide +kernel
theorem dX11_set_84 : decode cX11_set 84 = .ok (.ireturn, 1) := by decide +kernel
theorem dX11_ofCell_0 : decode cX11_ofCell 0 = .ok (.aload_n 0, 1) := by decide +kernel
theorem dX11_ofCell_1 : decode cX11_ofCell 1 = .ok (.iload_n 1, 1) := by decide +kernel
theorem dX11_ofCell_2 : decode cX11_ofCell 2 = .ok (.invokevirtual 97, 3) := by decide +kernel
theorem dX11_ofCell_5 : decode cX11_ofCell 5 = .ok (.ifCond .ne 9, 3) := by decide +kernel
theorem dX11_ofCell_8 : decode cX11_ofCell 8 = .ok (.aload_n 0, 1) := by decide +kernel
theorem dX11_ofCell_9 : decode cX11_ofCell 9 = .ok (.iconst 1, 1) := by decide +kernel
theorem dX11_ofCell_10 : decode cX11_ofCell 10 = .ok (.invokevirtual 82, 3) := by decide +kernel
theorem dX11_ofCell_13 : decode cX11_ofCell 13 = .ok (.ireturn, 1) := by decide +kernel
theorem dX11_ofCell_14 : decode cX11_ofCell 14 = .ok (.iload_n 2, 1) := by decide +kernel
theorem dX11_ofCell_15 : decode cX11_ofCell 15 = .ok (.tableswitch 112 0 3 #[29, 42, 55, 100], 29) := by decide +kernel
theorem dX11_ofCell_44 : decode cX11_ofCell 44 = .ok (.aload_n 0, 1) := by decide +kernel
theorem dX11_ofCell_45 : decode cX11_ofCell 45 = .ok (.getfield 14, 3) := by decide +kernel
theorem dX11_ofCell_48 : decode cX11_ofCell 48 = .ok (.getfield 86, 3) := by decide +kernel
theorem dX11_ofCell_51 : decode cX11_ofCell 51 = .ok (.getfield 101, 3) := by decide +kernel
theorem dX11_ofCell_54 : decode cX11_ofCell 54 = .ok (.iload_n 1, 1) := by decide +kernel
theorem dX11_ofCell_55 : decode cX11_ofCell 55 = .ok (.iaload, 1) := by decide +kernel
theorem dX11_ofCell_56 : decode cX11_ofCell 56 = .ok (.ireturn, 1) := by decide +kernel
theorem dX11_ofCell_57 : decode cX11_ofCell 57 = .ok (.aload_n 0, 1) := by decide +kernel
theorem dX11_ofCell_58 : decode cX11_ofCell 58 = .ok (.getfield 14, 3) := by decide +kernel
theorem dX11_ofCell_61 : decode cX11_ofCell 61 = .ok (.getfield 86, 3) := by decide +kernel
theorem dX11_ofCell_64 : decode cX11_ofCell 64 = .ok (.getfield 104, 3) := by decide +kernel
theorem dX11_ofCell_67 : decode cX11_ofCell 67 = .ok (.iload_n 1, 1) := by decide +kernel
theorem dX11_ofCell_68 : decode cX11_ofCell 68 = .ok (.iaload, 1) := by decide +kernel
theorem dX11_ofCell_69 : decode cX11_ofCell 69 = .ok (.ireturn, 1) := by decide +kernel
theorem dX11_ofCell_70 : decode cX11_ofCell 70 = .ok (.aload_n 0, 1) := by decide +kernel
theorem dX11_ofCell_71 : decode cX11_ofCell 71 = .ok (.getfield 14, 3) := by decide +kernel
theorem dX11_ofCell_74 : decode cX11_ofCell 74 = .ok (.getfield 107, 3) := by decide +kernel
theorem dX11_ofCell_77 : decode cX11_ofCell 77 = .ok (.aload_n 0, 1) := by decide +kernel
theorem dX11_ofCell_78 : decode cX11_ofCell 78 = .ok (.getfield 14, 3) := by decide +kernel
theorem dX11_ofCell_81 : decode cX11_ofCell 81 = .ok (.getfield 86, 3) := by decide +kernel
theorem dX11_ofCell_84 : decode cX11_ofCell 84 = .ok (.getfield 101, 3) := by decide +kernel
theorem dX11_ofCell_87 : decode cX11_ofCell 87 = .ok (.iload_n 1, 1) := by decide +kernel
theorem dX11_ofCell_88 : decode cX11_ofCell 88 = .ok (.iaload, 1) := by decide +kernel
theorem dX11_ofCell_89 : decode cX11_ofCell 89 = .ok (.aload_n 0, 1) := by decide +kernel
theorem dX11_ofCell_90 : decode cX11_ofCell 90 = .ok (.getfield 14, 3) := by decide +kernel
theorem dX11_ofCell_93 : decode cX11_ofCell 93 = .ok (.getfield 86, 3) := by decide +kernel
theorem dX11_ofCell_96 : decode cX11_ofCell 96 = .ok (.iload_n 1, 1) := by decide +kernel
theorem dX11_ofCell_97 : decode cX11_ofCell 97 = .ok (.invokevirtual 111, 3) := by decide +kernel
theorem dX11_ofCell_100 : decode cX11_ofCell 100 = .ok (.aload_n 0, 1) := by decide +kernel
theorem dX11_ofCell_101 : decode cX11_ofCell 101 = .ok (.getfield 14, 3) := by decide +kernel
theorem dX11_ofCell_104 : decode cX11_ofCell 104 = .ok (.getfield 86, 3) := by decide +kernel
theorem dX11_ofCell_107 : decode cX11_ofCell 107 = .ok (.iload_n 1, 1) := by decide +kernel
theorem dX11_ofCell_108 : decode cX11_ofCell 108 = .ok (.invokevirtual 114, 3) := by decide +kernel
theorem dX11_ofCell_111 : decode cX11_ofCell 111 = .ok (.invokevirtual 117, 3) := by decide +kernel
theorem dX11_ofCell_114 : decode cX11_ofCell 114 = .ok (.ireturn, 1) := by decide +kernel
theorem dX11_ofCell_115 : decode cX11_ofCell 115 = .ok (.aload_n 0, 1) := by decide +kernel
theorem dX11_ofCell_116 : decode cX11_ofCell 116 = .ok (.getfield 14, 3) := by decide +kernel
theorem dX11_ofCell_119 : decode cX11_ofCell 119 = .ok (.getfield 86, 3) := by decide +kernel
theorem dX11_ofCell_122 : decode cX11_ofCell 122 = .ok (.iload_n 1, 1) := by decide +kernel
theorem dX11_ofCell_123 : decode cX11_ofCell 123 = .ok (.invokevirtual 123, 3) := by decide +kernel
theorem dX11_ofCell_126 : decode cX11_ofCell 126 = .ok (.ireturn, 1) := by decide +kernel
theorem dX11_ofCell_127 : decode cX11_ofCell 127 = .ok (.aload_n 0, 1) := by decide +kernel
theorem dX11_ofCell_128 : decode cX11_ofCell 128 = .ok (.iconst 1, 1) := by decide +kernel
theorem dX11_ofCell_129 : decode cX11_ofCell 129 = .ok (.invokevirtual 82, 3) := by decide +kernel
theorem dX11_ofCell_132 : decode cX11_ofCell 132 = .ok (.ireturn, 1) := by decide +kernel
theorem dX11_edge_0 : decode cX11_edge 0 = .ok (.iload_n 1, 1) := by decide +kernel
theorem dX11_edge_1 : decode cX11_edge 1 = .ok (.invokestatic 126, 3) := by decide +kernel
theorem dX11_edge_4 : decode cX11_edge 4 = .ok (.ifCond .eq 12, 3) := by decide +kernel
theorem dX11_edge_7 : decode cX11_edge 7 = .ok (.iload_n 2, 1) := by decide +kernel
theorem dX11_edge_8 : decode cX11_edge 8 = .ok (.iconst 0, 1) := by decide +kernel
theorem dX11_edge_9 : decode cX11_edge 9 = .ok (.iconst 1, 1) := by decide +kernel
theorem dX11_edge_10 : decode cX11_edge 10 = .ok (.invokestatic 78, 3) := by decide +kernel
theorem dX11_edge_13 : decode cX11_edge 13 = .ok (.ifCond .ne 9, 3) := by decide +kernel
theorem dX11_edge_16 : decode cX11_edge 16 = .ok (.aload_n 0, 1) := by decide +kernel
theorem dX11_edge_17 : decode cX11_edge 17 = .ok (.iconst 1, 1) := by decide +kernel
theorem dX11_edge_18 : decode cX11_edge 18 = .ok (.invokevirtual 82, 3) := by decide +kernel
theorem dX11_edge_21 : decode cX11_edge 21 = .ok (.ireturn, 1) := by decide +kernel
theorem dX11_edge_22 : decode cX11_edge 22 = .ok (.aload_n 0, 1) := by decide +kernel
theorem dX11_edge_23 : decode cX11_edge 23 = .ok (.getfield 14, 3) := by decide +kernel
theorem dX11_edge_26 : decode cX11_edge 26 = .ok (.getfield 86, 3) := by decide +kernel
theorem dX11_edge_29 : decode cX11_edge 29 = .ok (.getfield 129, 3) := by decide +kernel
theorem dX11_edge_32 : decode cX11_edge 32 = .ok (.iload_n 1, 1) := by decide +kernel
theorem dX11_edge_33 : decode cX11_edge 33 = .ok (.iaload, 1) := by decide +kernel
theorem dX11_edge_34 : decode cX11_edge 34 = .ok (.istore_n 3, 1) := by decide +kernel
theorem dX11_edge_35 : decode cX11_edge 35 = .ok (.aload_n 0, 1) := by decide +kernel
theorem dX11_edge_36 : decode cX11_edge 36 = .ok (.getfield 14, 3) := by decide +kernel
theorem dX11_edge_39 : decode cX11_edge 39 = .ok (.getfield 86, 3) := by decide +kernel
theorem dX11_edge_42 : decode cX11_edge 42 = .ok (.getfield 129, 3) := by decide +kernel
theorem dX11_edge_45 : decode cX11_edge 45 = .ok (.iload_n 1, 1) := by decide +kernel
theorem dX11_edge_46 : decode cX11_edge 46 = .ok (.iload_n 2, 1) := by decide +kernel
theorem dX11_edge_47 : decode cX11_edge 47 = .ok (.iastore, 1) := by decide +kernel
theorem dX11_edge_48 : decode cX11_edge 48 = .ok (.iload_n 3, 1) := by decide +kernel
theorem dX11_edge_49 : decode cX11_edge 49 = .ok (.ireturn, 1) := by decide +kernel
theorem dX11_tool_0 : decode cX11_tool 0 = .ok (.iload_n 1, 1) := by decide +kernel
theorem dX11_tool_1 : decode cX11_tool 1 = .ok (.iconst 0, 1) := by decide +kernel
theorem dX11_tool_2 : decode cX11_tool 2 = .ok (.bipush 69, 2) := by decide +kernel
theorem dX11_tool_4 : decode cX11_tool 4 = .ok (.invokestatic 78, 3) := by decide +kernel
theorem dX11_tool_7 : decode cX11_tool 7 = .ok (.ifCond .ne 9, 3) := by decide +kernel
theorem dX11_tool_10 : decode cX11_tool 10 = .ok (.aload_n 0, 1) := by decide +kernel
theorem dX11_tool_11 : decode cX11_tool 11 = .ok (.iconst 1, 1) := by decide +kernel
theorem dX11_tool_12 : decode cX11_tool 12 = .ok (.invokevirtual 82, 3) := by decide +kernel
theorem dX11_tool_15 : decode cX11_tool 15 = .ok (.ireturn, 1) := by decide +kernel
theorem dX11_tool_16 : decode cX11_tool 16 = .ok (.aload_n 0, 1) := by decide +kernel
theorem dX11_tool_17 : decode cX11_tool 17 = .ok (.getfield 14, 3) := by decide +kernel
theorem dX11_tool_20 : decode cX11_tool 20 = .ok (.getfield 132, 3) := by decide +kernel
theorem dX11_tool_23 : decode cX11_tool 23 = .ok (.istore_n 2, 1) := by decide +kernel
theorem dX11_tool_24 : decode cX11_tool 24 = .ok (.iload_n 2, 1) := by decide +kernel
theorem dX11_tool_25 : decode cX11_tool 25 = .ok (.iconst 0, 1) := by decide +kernel
theorem dX11_tool_26 : decode cX11_tool 26 = .ok (.iconst 5, 1) := by decide +kernel
theorem dX11_tool_27 : decode cX11_tool 27 = .ok (.invokestatic 78, 3) := by decide +kernel
theorem dX11_tool_30 : decode cX11_tool 30 = .ok (.ifCond .ne 9, 3) := by decide +kernel
theorem dX11_tool_33 : decode cX11_tool 33 = .ok (.aload_n 0, 1) := by decide +kernel
theorem dX11_tool_34 : decode cX11_tool 34 = .ok (.iconst 4, 1) := by decide +kernel
theorem dX11_tool_35 : decode cX11_tool 35 = .ok (.invokevirtual 82, 3) := by decide +kernel
theorem dX11_tool_38 : decode cX11_tool 38 = .ok (.ireturn, 1) := by decide +kernel
theorem dX11_tool_39 : decode cX11_tool 39 = .ok (.aload_n 0, 1) := by decide +kernel
theorem dX11_tool_40 : decode cX11_tool 40 = .ok (.getfield 14, 3) := by decide +kernel
theorem dX11_tool_43 : decode cX11_tool 43 = .ok (.getfield 136, 3) := by decide +kernel
theorem dX11_tool_46 : decode cX11_tool 46 = .ok (.iload_n 2, 1) := by decide +kernel
theorem dX11_tool_47 : decode cX11_tool 47 = .ok (.iload_n 1, 1) := by decide +kernel
theorem dX11_tool_48 : decode cX11_tool 48 = .ok (.bipush 10, 2) := by decide +kernel
theorem dX11_tool_50 : decode cX11_tool 50 = .ok (.idiv, 1) := by decide +kernel
theorem dX11_tool_51 : decode cX11_tool 51 = .ok (.iastore, 1) := by decide +kernel
theorem dX11_tool_52 : decode cX11_tool 52 = .ok (.aload_n 0, 1) := by decide +kernel
theorem dX11_tool_53 : decode cX11_tool 53 = .ok (.getfield 14, 3) := by decide +kernel
theorem dX11_tool_56 : decode cX11_tool 56 = .ok (.getfield 139, 3) := by decide +kernel
theorem dX11_tool_59 : decode cX11_tool 59 = .ok (.iload_n 2, 1) := by decide +kernel
theorem dX11_tool_60 : decode cX11_tool 60 = .ok (.iload_n 1, 1) := by decide +kernel
theorem dX11_tool_61 : decode cX11_tool 61 = .ok (.bipush 10, 2) := by decide +kernel
theorem dX11_tool_63 : decode cX11_tool 63 = .ok (.irem, 1) := by decide +kernel
theorem dX11_tool_64 : decode cX11_tool 64 = .ok (.iastore, 1) := by decide +kernel
theorem dX11_tool_65 : decode cX11_tool 65 = .ok (.aload_n 0, 1) := by decide +kernel
theorem dX11_tool_66 : decode cX11_tool 66 = .ok (.getfield 14, 3) := by decide +kernel
theorem dX11_tool_69 : decode cX11_tool 69 = .ok (.iload_n 2, 1) := by decide +kernel
theorem dX11_tool_70 : decode cX11_tool 70 = .ok (.iconst 1, 1) := by decide +kernel
theorem dX11_tool_71 : decode cX11_tool 71 = .ok (.iadd, 1) := by decide +kernel
theorem dX11_tool_72 : decode cX11_tool 72 = .ok (.putfield 132, 3) := by decide +kernel
theorem dX11_tool_75 : decode cX11_tool 75 = .ok (.iload_n 2, 1) := by decide +kernel
theorem dX11_tool_76 : decode cX11_tool 76 = .ok (.ireturn, 1) := by decide +kernel
theorem dX11_ofTool_0 : decode cX11_ofTool 0 = .ok (.aload_n 0, 1) := by decide +kernel
theorem dX11_ofTool_1 : decode cX11_ofTool 1 = .ok (.iload_n 1, 1) := by decide +kernel
theorem dX11_ofTool_2 : decode cX11_ofTool 2 = .ok (.invokevirtual 142, 3) := by decide +kernel
theorem dX11_ofTool_5 : decode cX11_ofTool 5 = .ok (.ifCond .ne 9, 3) := by decide +kernel
theorem dX11_ofTool_8 : decode cX11_ofTool 8 = .ok (.aload_n 0, 1) := by decide +kernel
theorem dX11_ofTool_9 : decode cX11_ofTool 9 = .ok (.iconst 1, 1) := by decide +kernel
theorem dX11_ofTool_10 : decode cX11_ofTool 10 = .ok (.invokevirtual 82, 3) := by decide +kernel
theorem dX11_ofTool_13 : decode cX11_ofTool 13 = .ok (.ireturn, 1) := by decide +kernel
theorem dX11_ofTool_14 : decode cX11_ofTool 14 = .ok (.aload_n 0, 1) := by decide +kernel
theorem dX11_ofTool_15 : decode cX11_ofTool 15 = .ok (.iload_n 1, 1) := by decide +kernel
theorem dX11_ofTool_16 : decode cX11_ofTool 16 = .ok (.invokevirtual 145, 3) := by decide +kernel
theorem dX11_ofTool_19 : decode cX11_ofTool 19 = .ok (.astore_n 3, 1) := by decide +kernel
theorem dX11_ofTool_20 : decode cX11_ofTool 20 = .ok (.aload_n 0, 1) := by decide +kernel
theorem dX11_ofTool_21 : decode cX11_ofTool 21 = .ok (.getfield 14, 3) := by decide +kernel
theorem dX11_ofTool_24 : decode cX11_ofTool 24 = .ok (.getfield 139, 3) := by decide +kernel
theorem dX11_ofTool_27 : decode cX11_ofTool 27 = .ok (.iload_n 1, 1) := by decide +kernel
theorem dX11_ofTool_28 : decode cX11_ofTool 28 = .ok (.iaload, 1) := by decide +kernel
theorem dX11_ofTool_29 : decode cX11_ofTool 29 = .ok (.istore 4, 2) := by decide +kernel
theorem dX11_ofTool_31 : decode cX11_ofTool 31 = .ok (.iload_n 2, 1) := by decide +kernel
theorem dX11_ofTool_32 : decode cX11_ofTool 32 = .ok (.tableswitch 124 0 6 #[44, 54, 57, 64, 97, 111, 117], 44) := by decide +kernel
theorem dX11_ofTool_76 : decode cX11_ofTool 76 = .ok (.aload_n 0, 1) := by decide +kernel
theorem dX11_ofTool_77 : decode cX11_ofTool 77 = .ok (.getfield 14, 3) := by decide +kernel
theorem dX11_ofTool_80 : decode cX11_ofTool 80 = .ok (.getfield 136, 3) := by decide +kernel
theorem dX11_ofTool_83 : decode cX11_ofTool 83 = .ok (.iload_n 1, 1) := by decide +kernel
theorem dX11_ofTool_84 : decode cX11_ofTool 84 = .ok (.iaload, 1) := by decide +kernel
theorem dX11_ofTool_85 : decode cX11_ofTool 85 = .ok (.ireturn, 1) := by decide +kernel
theorem dX11_ofTool_86 : decode cX11_ofTool 86 = .ok (.iload 4, 2) := by decide +kernel
theorem dX11_ofTool_88 : decode cX11_ofTool 88 = .ok (.ireturn, 1) := by decide +kernel
theorem dX11_ofTool_89 : decode cX11_ofTool 89 = .ok (.aload_n 3, 1) := by decide +kernel
theorem dX11_ofTool_90 : decode cX11_ofTool 90 = .ok (.iload 4, 2) := by decide +kernel
theorem dX11_ofTool_92 : decode cX11_ofTool 92 = .ok (.invokevirtual 149, 3) := by decide +kernel
theorem dX11_ofTool_95 : decode cX11_ofTool 95 = .ok (.ireturn, 1) := by decide +kernel
theorem dX11_ofTool_96 : decode cX11_ofTool 96 = .ok (.aload_n 0, 1) := by decide +kernel
theorem dX11_ofTool_97 : decode cX11_ofTool 97 = .ok (.getfield 14, 3) := by decide +kernel
theorem dX11_ofTool_100 : decode cX11_ofTool 100 = .ok (.getfield 152, 3) := by decide +kernel
theorem dX11_ofTool_103 : decode cX11_ofTool 103 = .ok (.bipush 20, 2) := by decide +kernel
theorem dX11_ofTool_105 : decode cX11_ofTool 105 = .ok (.iconst 5, 1) := by decide +kernel
theorem dX11_ofTool_106 : decode cX11_ofTool 106 = .ok (.iload 4, 2) := by decide +kernel
theorem dX11_ofTool_108 : decode cX11_ofTool 108 = .ok (.invokevirtual 117, 3) := by decide +kernel
theorem dX11_ofTool_111 : decode cX11_ofTool 111 = .ok (.istore 5, 2) := by decide +kernel
theorem dX11_ofTool_113 : decode cX11_ofTool 113 = .ok (.bipush 20, 2) := by decide +kernel
theorem dX11_ofTool_115 : decode cX11_ofTool 115 = .ok (.aload_n 3, 1) := by decide +kernel
theorem dX11_ofTool_116 : decode cX11_ofTool 116 = .ok (.bipush 20, 2) := by decide +kernel
theorem dX11_ofTool_118 : decode cX11_ofTool 118 = .ok (.iload 5, 2) := by decide +kernel
theorem dX11_ofTool_120 : decode cX11_ofTool 120 = .ok (.iload 4, 2) := by decide +kernel
theorem dX11_ofTool_122 : decode cX11_ofTool 122 = .ok (.invokevirtual 155, 3) := by decide +kernel
theorem dX11_ofTool_125 : decode cX11_ofTool 125 = .ok (.invokestatic 158, 3) := by decide +kernel
theorem dX11_ofTool_128 : decode cX11_ofTool 128 = .ok (.ireturn, 1) := by decide +kernel
theorem dX11_ofTool_129 : decode cX11_ofTool 129 = .ok (.bipush 20, 2) := by decide +kernel
theorem dX11_ofTool_131 : decode cX11_ofTool 131 = .ok (.aload_n 3, 1) := by decide +kernel
theorem dX11_ofTool_132 : decode cX11_ofTool 132 = .ok (.bipush 20, 2) := by decide +kernel
theorem dX11_ofTool_134 : decode cX11_ofTool 134 = .ok (.iload 4, 2) := by decide +kernel
theorem dX11_ofTool_136 : decode cX11_ofTool 136 = .ok (.invokevirtual 164, 3) := by decide +kernel
theorem dX11_ofTool_139 : decode cX11_ofTool 139 = .ok (.invokestatic 158, 3) := by decide +kernel
theorem dX11_ofTool_142 : decode cX11_ofTool 142 = .ok (.ireturn, 1) := by decide +kernel
theorem dX11_ofTool_143 : decode cX11_ofTool 143 = .ok (.aload_n 3, 1) := by decide +kernel
theorem dX11_ofTool_144 : decode cX11_ofTool 144 = .ok (.iconst 0, 1) := by decide +kernel
theorem dX11_ofTool_145 : decode cX11_ofTool 145 = .ok (.invokevirtual 167, 3) := by decide +kernel
theorem dX11_ofTool_148 : decode cX11_ofTool 148 = .ok (.ireturn, 1) := by decide +kernel
theorem dX11_ofTool_149 : decode cX11_ofTool 149 = .ok (.aload_n 3, 1) := by decide +kernel
theorem dX11_ofTool_150 : decode cX11_ofTool 150 = .ok (.bipush 9, 2) := by decide +kernel
theorem dX11_ofTool_152 : decode cX11_ofTool 152 = .ok (.invokevirtual 167, 3) := by decide +kernel
theorem dX11_ofTool_155 : decode cX11_ofTool 155 = .ok (.ireturn, 1) := by decide +kernel
theorem dX11_ofTool_156 : decode cX11_ofTool 156 = .ok (.aload_n 0, 1) := by decide +kernel
theorem dX11_ofTool_157 : decode cX11_ofTool 157 = .ok (.iconst 1, 1) := by decide +kernel
theorem dX11_ofTool_158 : decode cX11_ofTool 158 = .ok (.invokevirtual 82, 3) := by decide +kernel
theorem dX11_ofTool_161 : decode cX11_ofTool 161 = .ok (.ireturn, 1) := by decide +kernel
theorem dX11_become_0 : decode cX11_become 0 = .ok (.aload_n 0, 1) := by decide +kernel
theorem dX11_become_1 : decode cX11_become 1 = .ok (.iload_n 1, 1) := by decide +kernel
theorem dX11_become_2 : decode cX11_become 2 = .ok (.invokevirtual 142, 3) := by decide +kernel
theorem dX11_become_5 : decode cX11_become 5 = .ok (.ifCond .eq 13, 3) := by decide +kernel
theorem dX11_become_8 : decode cX11_become 8 = .ok (.iload_n 2, 1) := by decide +kernel
theorem dX11_become_9 : decode cX11_become 9 = .ok (.iconst 0, 1) := by decide +kernel
theorem dX11_become_10 : decode cX11_become 10 = .ok (.bipush 69, 2) := by decide +kernel
theorem dX11_become_12 : decode cX11_become 12 = .ok (.invokestatic 78, 3) := by decide +kernel
theorem dX11_become_15 : decode cX11_become 15 = .ok (.ifCond .ne 9, 3) := by decide +kernel
theorem dX11_become_18 : decode cX11_become 18 = .ok (.aload_n 0, 1) := by decide +kernel
theorem dX11_become_19 : decode cX11_become 19 = .ok (.iconst 1, 1) := by decide +kernel
theorem dX11_become_20 : decode cX11_become 20 = .ok (.invokevirtual 82, 3) := by decide +kernel
theorem dX11_become_23 : decode cX11_become 23 = .ok (.ireturn, 1) := by decide +kernel
theorem dX11_become_24 : decode cX11_become 24 = .ok (.aload_n 0, 1) := by decide +kernel
theorem dX11_become_25 : decode cX11_become 25 = .ok (.getfield 14, 3) := by decide +kernel
theorem dX11_become_28 : decode cX11_become 28 = .ok (.getfield 136, 3) := by decide +kernel
theorem dX11_become_31 : decode cX11_become 31 = .ok (.iload_n 1, 1) := by decide +kernel
theorem dX11_become_32 : decode cX11_become 32 = .ok (.iaload, 1) := by decide +kernel
theorem dX11_become_33 : decode cX11_become 33 = .ok (.istore_n 3, 1) := by decide +kernel
theorem dX11_become_34 : decode cX11_become 34 = .ok (.aload_n 0, 1) := by decide +kernel
theorem dX11_become_35 : decode cX11_become 35 = .ok (.getfield 14, 3) := by decide +kernel
theorem dX11_become_38 : decode cX11_become 38 = .ok (.getfield 136, 3) := by decide +kernel
theorem dX11_become_41 : decode cX11_become 41 = .ok (.iload_n 1, 1) := by decide +kernel
theorem dX11_become_42 : decode cX11_become 42 = .ok (.iload_n 2, 1) := by decide +kernel
theorem dX11_become_43 : decode cX11_become 43 = .ok (.bipush 10, 2) := by decide +kernel
theorem dX11_become_45 : decode cX11_become 45 = .ok (.idiv, 1) := by decide +kernel
theorem dX11_become_46 : decode cX11_become 46 = .ok (.iastore, 1) := by decide +kernel
theorem dX11_become_47 : decode cX11_become 47 = .ok (.aload_n 0, 1) := by decide +kernel
theorem dX11_become_48 : decode cX11_become 48 = .ok (.getfield 14, 3) := by decide +kernel
theorem dX11_become_51 : decode cX11_become 51 = .ok (.getfield 139, 3) := by decide +kernel
theorem dX11_become_54 : decode cX11_become 54 = .ok (.iload_n 1, 1) := by decide +kernel
theorem dX11_become_55 : decode cX11_become 55 = .ok (.iload_n 2, 1) := by decide +kernel
theorem dX11_become_56 : decode cX11_become 56 = .ok (.bipush 10, 2) := by decide +kernel
theorem dX11_become_58 : decode cX11_become 58 = .ok (.irem, 1) := by decide +kernel
theorem dX11_become_59 : decode cX11_become 59 = .ok (.iastore, 1) := by decide +kernel
theorem dX11_become_60 : decode cX11_become 60 = .ok (.iload_n 3, 1) := by decide +kernel
theorem dX11_become_61 : decode cX11_become 61 = .ok (.ireturn, 1) := by decide +kernel
theorem dX11_as_0 : decode cX11_as 0 = .ok (.aload_n 0, 1) := by decide +kernel
theorem dX11_as_1 : decode cX11_as 1 = .ok (.iload_n 1, 1) := by decide +kernel
theorem dX11_as_2 : decode cX11_as 2 = .ok (.invokevirtual 142, 3) := by decide +kernel
theorem dX11_as_5 : decode cX11_as 5 = .ok (.ifCond .eq 13, 3) := by decide +kernel
theorem dX11_as_8 : decode cX11_as 8 = .ok (.iload_n 2, 1) := by decide +kernel
theorem dX11_as_9 : decode cX11_as 9 = .ok (.iconst 0, 1) := by decide +kernel
theorem dX11_as_10 : decode cX11_as 10 = .ok (.bipush 6, 2) := by decide +kernel
theorem dX11_as_12 : decode cX11_as 12 = .ok (.invokestatic 78, 3) := by decide +kernel
theorem dX11_as_15 : decode cX11_as 15 = .ok (.ifCond .ne 9, 3) := by decide +kernel
theorem dX11_as_18 : decode cX11_as 18 = .ok (.aload_n 0, 1) := by decide +kernel
theorem dX11_as_19 : decode cX11_as 19 = .ok (.iconst 1, 1) := by decide +kernel
theorem dX11_as_20 : decode cX11_as 20 = .ok (.invokevirtual 82, 3) := by decide +kernel
theorem dX11_as_23 : decode cX11_as 23 = .ok (.ireturn, 1) := by decide +kernel
theorem dX11_as_24 : decode cX11_as 24 = .ok (.aload_n 0, 1) := by decide +kernel
theorem dX11_as_25 : decode cX11_as 25 = .ok (.iload_n 1, 1) := by decide +kernel
theorem dX11_as_26 : decode cX11_as 26 = .ok (.invokevirtual 145, 3) := by decide +kernel
theorem dX11_as_29 : decode cX11_as 29 = .ok (.iload_n 2, 1) := by decide +kernel
theorem dX11_as_30 : decode cX11_as 30 = .ok (.invokevirtual 170, 3) := by decide +kernel
theorem dX11_as_33 : decode cX11_as 33 = .ok (.ifCond .ne 9, 3) := by decide +kernel
theorem dX11_as_36 : decode cX11_as 36 = .ok (.aload_n 0, 1) := by decide +kernel
theorem dX11_as_37 : decode cX11_as 37 = .ok (.iconst 5, 1) := by decide +kernel
theorem dX11_as_38 : decode cX11_as 38 = .ok (.invokevirtual 82, 3) := by decide +kernel
theorem dX11_as_41 : decode cX11_as 41 = .ok (.ireturn, 1) := by decide +kernel
theorem dX11_as_42 : decode cX11_as 42 = .ok (.aload_n 0, 1) := by decide +kernel
theorem dX11_as_43 : decode cX11_as 43 = .ok (.getfield 14, 3) := by decide +kernel
theorem dX11_as_46 : decode cX11_as 46 = .ok (.getfield 139, 3) := by decide +kernel
theorem dX11_as_49 : decode cX11_as 49 = .ok (.iload_n 1, 1) := by decide +kernel
theorem dX11_as_50 : decode cX11_as 50 = .ok (.iaload, 1) := by decide +kernel
theorem dX11_as_51 : decode cX11_as 51 = .ok (.ireturn, 1) := by decide +kernel
theorem dX11_feed_0 : decode cX11_feed 0 = .ok (.iload_n 3, 1) := by decide +kernel
theorem dX11_feed_1 : decode cX11_feed 1 = .ok (.iconst 1, 1) := by decide +kernel
theorem dX11_feed_2 : decode cX11_feed 2 = .ok (.bipush 8, 2) := by decide +kernel
theorem dX11_feed_4 : decode cX11_feed 4 = .ok (.invokestatic 78, 3) := by decide +kernel
theorem dX11_feed_7 : decode cX11_feed 7 = .ok (.ifCond .ne 9, 3) := by decide +kernel
theorem dX11_feed_10 : decode cX11_feed 10 = .ok (.aload_n 0, 1) := by decide +kernel
theorem dX11_feed_11 : decode cX11_feed 11 = .ok (.iconst 1, 1) := by decide +kernel
theorem dX11_feed_12 : decode cX11_feed 12 = .ok (.invokevirtual 82, 3) := by decide +kernel
theorem dX11_feed_15 : decode cX11_feed 15 = .ok (.ireturn, 1) := by decide +kernel
theorem dX11_feed_16 : decode cX11_feed 16 = .ok (.aload_n 0, 1) := by decide +kernel
theorem dX11_feed_17 : decode cX11_feed 17 = .ok (.getfield 14, 3) := by decide +kernel
theorem dX11_feed_20 : decode cX11_feed 20 = .ok (.getfield 173, 3) := by decide +kernel
theorem dX11_feed_23 : decode cX11_feed 23 = .ok (.bipush 50, 2) := by decide +kernel
theorem dX11_feed_25 : decode cX11_feed 25 = .ok (.iload_n 3, 1) := by decide +kernel
theorem dX11_feed_26 : decode cX11_feed 26 = .ok (.isub, 1) := by decide +kernel
theorem dX11_feed_27 : decode cX11_feed 27 = .ok (.if_icmp .le 9, 3) := by decide +kernel
theorem dX11_feed_30 : decode cX11_feed 30 = .ok (.aload_n 0, 1) := by decide +kernel
theorem dX11_feed_31 : decode cX11_feed 31 = .ok (.iconst 4, 1) := by decide +kernel
theorem dX11_feed_32 : decode cX11_feed 32 = .ok (.invokevirtual 82, 3) := by decide +kernel
theorem dX11_feed_35 : decode cX11_feed 35 = .ok (.ireturn, 1) := by decide +kernel
theorem dX11_feed_36 : decode cX11_feed 36 = .ok (.iconst 0, 1) := by decide +kernel
theorem dX11_feed_37 : decode cX11_feed 37 = .ok (.istore 4, 2) := by decide +kernel
theorem dX11_feed_39 : decode cX11_feed 39 = .ok (.iload 4, 2) := by decide +kernel
theorem dX11_feed_41 : decode cX11_feed 41 = .ok (.iload_n 3, 1) := by decide +kernel
theorem dX11_feed_42 : decode cX11_feed 42 = .ok (.if_icmp .ge 28, 3) := by decide +kernel
theorem dX11_feed_45 : decode cX11_feed 45 = .ok (.aload_n 0, 1) := by decide +kernel
theorem dX11_feed_46 : decode cX11_feed 46 = .ok (.getfield 14, 3) := by decide +kernel
theorem dX11_feed_49 : decode cX11_feed 49 = .ok (.lload_n 1, 1) := by decide +kernel
theorem dX11_feed_50 : decode cX11_feed 50 = .ok (.bipush 8, 2) := by decide +kernel
theorem dX11_feed_52 : decode cX11_feed 52 = .ok (.iload 4, 2) := by decide +kernel
theorem dX11_feed_54 : decode cX11_feed 54 = .ok (.imul, 1) := by decide +kernel
theorem dX11_feed_55 : decode cX11_feed 55 = .ok (.lushr, 1) := by decide +kernel
theorem dX11_feed_56 : decode cX11_feed 56 = .ok (.l2i, 1) := by decide +kernel
theorem dX11_feed_57 : decode cX11_feed 57 = .ok (.sipush 255, 3) := by decide +kernel
theorem dX11_feed_60 : decode cX11_feed 60 = .ok (.iand, 1) := by decide +kernel
theorem dX11_feed_61 : decode cX11_feed 61 = .ok (.invokevirtual 176, 3) := by decide +kernel
theorem dX11_feed_64 : decode cX11_feed 64 = .ok (.iinc 4 1, 3) := by decide +kernel
theorem dX11_feed_67 : decode cX11_feed 67 = .ok (.goto (-28), 3) := by decide +kernel
theorem dX11_feed_70 : decode cX11_feed 70 = .ok (.aload_n 0, 1) := by decide +kernel
theorem dX11_feed_71 : decode cX11_feed 71 = .ok (.getfield 14, 3) := by decide +kernel
theorem dX11_feed_74 : decode cX11_feed 74 = .ok (.getfield 173, 3) := by decide +kernel
theorem dX11_feed_77 : decode cX11_feed 77 = .ok (.ireturn, 1) := by decide +kernel
theorem dX11_text_0 : decode cX11_text 0 = .ok (.iload_n 1, 1) := by decide +kernel
theorem dX11_text_1 : decode cX11_text 1 = .ok (.invokestatic 180, 3) := by decide +kernel
theorem dX11_text_4 : decode cX11_text 4 = .ok (.ifCond .ne 9, 3) := by decide +kernel
theorem dX11_text_7 : decode cX11_text 7 = .ok (.aload_n 0, 1) := by decide +kernel
theorem dX11_text_8 : decode cX11_text 8 = .ok (.iconst 1, 1) := by decide +kernel
theorem dX11_text_9 : decode cX11_text 9 = .ok (.invokevirtual 82, 3) := by decide +kernel
theorem dX11_text_12 : decode cX11_text 12 = .ok (.ireturn, 1) := by decide +kernel
theorem dX11_text_13 : decode cX11_text 13 = .ok (.aload_n 0, 1) := by decide +kernel
theorem dX11_text_14 : decode cX11_text 14 = .ok (.iload_n 1, 1) := by decide +kernel
theorem dX11_text_15 : decode cX11_text 15 = .ok (.invokevirtual 183, 3) := by decide +kernel
theorem dX11_text_18 : decode cX11_text 18 = .ok (.aload_n 0, 1) := by decide +kernel
theorem dX11_text_19 : decode cX11_text 19 = .ok (.getfield 14, 3) := by decide +kernel
theorem dX11_text_22 : decode cX11_text 22 = .ok (.getfield 187, 3) := by decide +kernel
theorem dX11_text_25 : decode cX11_text 25 = .ok (.aload_n 0, 1) := by decide +kernel
theorem dX11_text_26 : decode cX11_text 26 = .ok (.getfield 14, 3) := by decide +kernel
theorem dX11_text_29 : decode cX11_text 29 = .ok (.getfield 173, 3) := by decide +kernel
theorem dX11_text_32 : decode cX11_text 32 = .ok (.invokevirtual 190, 3) := by decide +kernel
theorem dX11_text_35 : decode cX11_text 35 = .ok (.istore_n 2, 1) := by decide +kernel
theorem dX11_text_36 : decode cX11_text 36 = .ok (.aload_n 0, 1) := by decide +kernel
theorem dX11_text_37 : decode cX11_text 37 = .ok (.getfield 14, 3) := by decide +kernel
theorem dX11_text_40 : decode cX11_text 40 = .ok (.iconst 0, 1) := by decide +kernel
theorem dX11_text_41 : decode cX11_text 41 = .ok (.putfield 173, 3) := by decide +kernel
theorem dX11_text_44 : decode cX11_text 44 = .ok (.iload_n 2, 1) := by decide +kernel
theorem dX11_text_45 : decode cX11_text 45 = .ok (.ifCond .ge 7, 3) := by decide +kernel
theorem dX11_text_48 : decode cX11_text 48 = .ok (.iconst 1, 1) := by decide +kernel
theorem dX11_text_49 : decode cX11_text 49 = .ok (.goto 7, 3) := by decide +kernel
theorem dX11_text_52 : decode cX11_text 52 = .ok (.bipush (-10), 2) := by decide +kernel
theorem dX11_text_54 : decode cX11_text 54 = .ok (.iload_n 2, 1) := by decide +kernel
theorem dX11_text_55 : decode cX11_text 55 = .ok (.isub, 1) := by decide +kernel
theorem dX11_text_56 : decode cX11_text 56 = .ok (.ireturn, 1) := by decide +kernel
theorem dX11_law_0 : decode cX11_law 0 = .ok (.iload_n 1, 1) := by decide +kernel
theorem dX11_law_1 : decode cX11_law 1 = .ok (.invokestatic 180, 3) := by decide +kernel
theorem dX11_law_4 : decode cX11_law 4 = .ok (.ifCond .ne 9, 3) := by decide +kernel
theorem dX11_law_7 : decode cX11_law 7 = .ok (.aload_n 0, 1) := by decide +kernel
theorem dX11_law_8 : decode cX11_law 8 = .ok (.iconst 1, 1) := by decide +kernel
theorem dX11_law_9 : decode cX11_law 9 = .ok (.invokevirtual 82, 3) := by decide +kernel
theorem dX11_law_12 : decode cX11_law 12 = .ok (.ireturn, 1) := by decide +kernel
theorem dX11_law_13 : decode cX11_law 13 = .ok (.aload_n 0, 1) := by decide +kernel
theorem dX11_law_14 : decode cX11_law 14 = .ok (.iload_n 1, 1) := by decide +kernel
theorem dX11_law_15 : decode cX11_law 15 = .ok (.invokevirtual 183, 3) := by decide +kernel
theorem dX11_law_18 : decode cX11_law 18 = .ok (.iload_n 2, 1) := by decide +kernel
theorem dX11_law_19 : decode cX11_law 19 = .ok (.iload_n 3, 1) := by decide +kernel
theorem dX11_law_20 : decode cX11_law 20 = .ok (.iload 4, 2) := by decide +kernel
theorem dX11_law_22 : decode cX11_law 22 = .ok (.invokevirtual 117, 3) := by decide +kernel
theorem dX11_law_25 : decode cX11_law 25 = .ok (.ireturn, 1) := by decide +kernel
