set_option maxRecDepth 20000 in
theorem ggX0_init_X5_init : GoodIn wsX0_init wsX5_init := goodIn_r _ [9, 10, 2, 3, 11, 12, 13, 14, 15, 16, 17] (by decide +kernel) (by decide +kernel)
set_option maxRecDepth 20000 in
theorem gX0_init_X5_init_n9 : GoodIn wsX0_init (wsX5_init) := ggX0_init_X5_init
theorem dX0_init_0 : decode cX0_init 0 = .ok (.aload_n 0, 1) := by decide +kernel
theorem dX0_init_1 : decode cX0_init 1 = .ok (.invokespecial 1, 3) := by decide +kernel
theorem dX0_init_4 : decode cX0_init 4 = .ok (.aload_n 0, 1) := by decide +kernel
theorem dX0_init_5 : decode cX0_init 5 = .ok (.new 7, 3) := by decide +kernel
theorem dX0_init_8 : decode cX0_init 8 = .ok (.dup, 1) := by decide +kernel
theorem dX0_init_9 : decode cX0_init 9 = .ok (.invokespecial 9, 3) := by decide +kernel
theorem dX0_init_12 : decode cX0_init 12 = .ok (.putfield 10, 3) := by decide +kernel
theorem dX0_init_15 : decode cX0_init 15 = .ok (.return_, 1) := by decide +kernel
theorem dX1_init_0 : decode cX1_init 0 = .ok (.aload_n 0, 1) := by decide +kernel
theorem dX1_init_1 : decode cX1_init 1 = .ok (.invokespecial 3, 3) := by decide +kernel
theorem dX1_init_4 : decode cX1_init 4 = .ok (.aload_n 0, 1) := by decide +kernel
theorem dX1_init_5 : decode cX1_init 5 = .ok (.bipush 44, 2) := by decide +kernel
theorem dX1_init_7 : decode cX1_init 7 = .ok (.newarray .long, 2) := by decide +kernel
theorem dX1_init_9 : decode cX1_init 9 = .ok (.putfield 11, 3) := by decide +kernel
theorem dX1_init_12 : decode cX1_init 12 = .ok (.aload_n 0, 1) := by decide +kernel
theorem dX1_init_13 : decode cX1_init 13 = .ok (.bipush 40, 2) := by decide +kernel
theorem dX1_init_15 : decode cX1_init 15 = .ok (.newarray .long, 2) := by decide +kernel
theorem dX1_init_17 : decode cX1_init 17 = .ok (.putfield 17, 3) := by decide +kernel
theorem dX1_init_20 : decode cX1_init 20 = .ok (.return_, 1) := by decide +kernel
set_option maxRecDepth 20000 in
theorem ggX1_whereAllHold_X5_cell : GoodIn wsX1_whereAllHold wsX5_cell := goodIn_r _ [7, 8, 18, 19, 20, 21, 22] (by decide +kernel) (by decide +kernel)
set_option maxRecDepth 20000 in
theorem gX1_whereAllHold_X5_cell : GoodIn wsX1_whereAllHold (wsV RX1 28 RX5 yX5_cell wsX5_cell) := goodIn_app (goodIn_of _ (by decide +kernel)) ggX1_whereAllHold_X5_cell
set_option maxRecDepth 20000 in
theorem ggX1_whereAllHold_X8_whereClauseHolds : GoodIn wsX1_whereAllHold wsX8_whereClauseHolds := goodIn_r _ [12, 13, 14, 15, 11, 16, 17] (by decide +kernel) (by decide +kernel)
set_option maxRecDepth 20000 in
theorem gX1_whereAllHold_X8_whereClauseHolds : GoodIn wsX1_whereAllHold (va_wsS RX1 32 yX8_whereClauseHolds wsX8_whereClauseHolds) := goodIn_app (goodIn_of _ (by decide +kernel)) ggX1_whereAllHold_X8_whereClauseHolds
theorem dX1_whereAllHold_0 : decode cX1_whereAllHold 0 = .ok (.ldc2_w 20, 3) := by decide +kernel
theorem dX1_whereAllHold_3 : decode cX1_whereAllHold 3 = .ok (.lstore_n 3, 1) := by decide +kernel
theorem dX1_whereAllHold_4 : decode cX1_whereAllHold 4 = .ok (.iconst 0, 1) := by decide +kernel
theorem dX1_whereAllHold_5 : decode cX1_whereAllHold 5 = .ok (.istore 5, 2) := by decide +kernel
theorem dX1_whereAllHold_7 : decode cX1_whereAllHold 7 = .ok (.iload 5, 2) := by decide +kernel
theorem dX1_whereAllHold_9 : decode cX1_whereAllHold 9 = .ok (.aload_n 0, 1) := by decide +kernel
theorem dX1_whereAllHold_10 : decode cX1_whereAllHold 10 = .ok (.getfield 22, 3) := by decide +kernel
theorem dX1_whereAllHold_13 : decode cX1_whereAllHold 13 = .ok (.if_icmp .ge 46, 3) := by decide +kernel
theorem dX1_whereAllHold_16 : decode cX1_whereAllHold 16 = .ok (.iload_n 1, 1) := by decide +kernel
theorem dX1_whereAllHold_17 : decode cX1_whereAllHold 17 = .ok (.iconst 2, 1) := by decide +kernel
theorem dX1_whereAllHold_18 : decode cX1_whereAllHold 18 = .ok (.if_icmp .eq 14, 3) := by decide +kernel
theorem dX1_whereAllHold_21 : decode cX1_whereAllHold 21 = .ok (.aload_n 0, 1) := by decide +kernel
theorem dX1_whereAllHold_22 : decode cX1_whereAllHold 22 = .ok (.iload 5, 2) := by decide +kernel
theorem dX1_whereAllHold_24 : decode cX1_whereAllHold 24 = .ok (.iconst 2, 1) := by decide +kernel
theorem dX1_whereAllHold_25 : decode cX1_whereAllHold 25 = .ok (.invokevirtual 28, 3) := by decide +kernel
theorem dX1_whereAllHold_28 : decode cX1_whereAllHold 28 = .ok (.iload_n 1, 1) := by decide +kernel
theorem dX1_whereAllHold_29 : decode cX1_whereAllHold 29 = .ok (.if_icmp .ne 24, 3) := by decide +kernel
theorem dX1_whereAllHold_32 : decode cX1_whereAllHold 32 = .ok (.lload_n 3, 1) := by decide +kernel
theorem dX1_whereAllHold_33 : decode cX1_whereAllHold 33 = .ok (.aload_n 0, 1) := by decide +kernel
theorem dX1_whereAllHold_34 : decode cX1_whereAllHold 34 = .ok (.iload 5, 2) := by decide +kernel
theorem dX1_whereAllHold_36 : decode cX1_whereAllHold 36 = .ok (.iconst 0, 1) := by decide +kernel
theorem dX1_whereAllHold_37 : decode cX1_whereAllHold 37 = .ok (.invokevirtual 28, 3) := by decide +kernel
theorem dX1_whereAllHold_40 : decode cX1_whereAllHold 40 = .ok (.aload_n 0, 1) := by decide +kernel
theorem dX1_whereAllHold_41 : decode cX1_whereAllHold 41 = .ok (.iload 5, 2) := by decide +kernel
theorem dX1_whereAllHold_43 : decode cX1_whereAllHold 43 = .ok (.iconst 1, 1) := by decide +kernel
theorem dX1_whereAllHold_44 : decode cX1_whereAllHold 44 = .ok (.invokevirtual 28, 3) := by decide +kernel
theorem dX1_whereAllHold_47 : decode cX1_whereAllHold 47 = .ok (.iload_n 2, 1) := by decide +kernel
theorem dX1_whereAllHold_48 : decode cX1_whereAllHold 48 = .ok (.invokestatic 32, 3) := by decide +kernel
theorem dX1_whereAllHold_51 : decode cX1_whereAllHold 51 = .ok (.land, 1) := by decide +kernel
theorem dX1_whereAllHold_52 : decode cX1_whereAllHold 52 = .ok (.lstore_n 3, 1) := by decide +kernel
theorem dX1_whereAllHold_53 : decode cX1_whereAllHold 53 = .ok (.iinc 5 1, 3) := by decide +kernel
theorem dX1_whereAllHold_56 : decode cX1_whereAllHold 56 = .ok (.goto (-49), 3) := by decide +kernel
theorem dX1_whereAllHold_59 : decode cX1_whereAllHold 59 = .ok (.lload_n 3, 1) := by decide +kernel
theorem dX1_whereAllHold_60 : decode cX1_whereAllHold 60 = .ok (.lreturn, 1) := by decide +kernel
set_option maxRecDepth 20000 in
theorem ggX1_worldsOf_X1_whereAllHold : GoodIn wsX1_worldsOf wsX1_whereAllHold := goodIn_r _ [4, 5, 6, 7, 8, 9, 10, 11, 12, 13, 14, 15, 16, 17, 18, 19, 20, 21, 29, 30, 31, 32, 33] (by decide +kernel) (by decide +kernel)
set_option maxRecDepth 20000 in
theorem gX1_worldsOf_X1_whereAllHold : GoodIn wsX1_worldsOf (va_wsS RX1 36 yX1_whereAllHold wsX1_whereAllHold) := goodIn_app (goodIn_of _ (by decide +kernel)) ggX1_worldsOf_X1_whereAllHold
set_option maxRecDepth 20000 in
theorem ggX1_worldsOf_J13_bitCount_95d88 : GoodIn wsX1_worldsOf wsJ13_bitCount_95d88 := goodIn_r _ [25, 26, 27, 28] (by decide +kernel) (by decide +kernel)
set_option maxRecDepth 20000 in
theorem gX1_worldsOf_J13_bitCount_95d88 : GoodIn wsX1_worldsOf (va_wsS RX1 40 yJ13_bitCount_95d88 wsJ13_bitCount_95d88) := goodIn_app (goodIn_of _ (by decide +kernel)) ggX1_worldsOf_J13_bitCount_95d88
theorem dX1_worldsOf_0 : decode cX1_worldsOf 0 = .ok (.iconst 0, 1) := by decide +kernel
theorem dX1_worldsOf_1 : decode cX1_worldsOf 1 = .ok (.istore_n 3, 1) := by decide +kernel
theorem dX1_worldsOf_2 : decode cX1_worldsOf 2 = .ok (.iconst 0, 1) := by decide +kernel
theorem dX1_worldsOf_3 : decode cX1_worldsOf 3 = .ok (.istore 4, 2) := by decide +kernel
theorem dX1_worldsOf_5 : decode cX1_worldsOf 5 = .ok (.iload 4, 2) := by decide +kernel
theorem dX1_worldsOf_7 : decode cX1_worldsOf 7 = .ok (.iconst 4, 1) := by decide +kernel
theorem dX1_worldsOf_8 : decode cX1_worldsOf 8 = .ok (.if_icmp .ge 22, 3) := by decide +kernel
theorem dX1_worldsOf_11 : decode cX1_worldsOf 11 = .ok (.iload_n 3, 1) := by decide +kernel
theorem dX1_worldsOf_12 : decode cX1_worldsOf 12 = .ok (.aload_n 1, 1) := by decide +kernel
theorem dX1_worldsOf_13 : decode cX1_worldsOf 13 = .ok (.iload_n 2, 1) := by decide +kernel
theorem dX1_worldsOf_14 : decode cX1_worldsOf 14 = .ok (.iload 4, 2) := by decide +kernel
theorem dX1_worldsOf_16 : decode cX1_worldsOf 16 = .ok (.invokestatic 36, 3) := by decide +kernel
theorem dX1_worldsOf_19 : decode cX1_worldsOf 19 = .ok (.invokestatic 40, 3) := by decide +kernel
theorem dX1_worldsOf_22 : decode cX1_worldsOf 22 = .ok (.iadd, 1) := by decide +kernel
theorem dX1_worldsOf_23 : decode cX1_worldsOf 23 = .ok (.istore_n 3, 1) := by decide +kernel
theorem dX1_worldsOf_24 : decode cX1_worldsOf 24 = .ok (.iinc 4 1, 3) := by decide +kernel
theorem dX1_worldsOf_27 : decode cX1_worldsOf 27 = .ok (.goto (-22), 3) := by decide +kernel
theorem dX1_worldsOf_30 : decode cX1_worldsOf 30 = .ok (.iload_n 3, 1) := by decide +kernel
theorem dX1_worldsOf_31 : decode cX1_worldsOf 31 = .ok (.ireturn, 1) := by decide +kernel
set_option maxRecDepth 20000 in
theorem ggX1_partiesBear_X4_word : GoodIn wsX1_partiesBear wsX4_word := goodIn_r _ [6, 7, 8, 29, 30] (by decide +kernel) (by decide +kernel)
set_option maxRecDepth 20000 in
theorem gX1_partiesBear_X4_word : GoodIn wsX1_partiesBear (wsV RX1 46 RX4 yX4_word wsX4_word) := goodIn_app (goodIn_of _ (by decide +kernel)) ggX1_partiesBear_X4_word
set_option maxRecDepth 20000 in
theorem ggX1_partiesBear_X1_whereAllHold : GoodIn wsX1_partiesBear wsX1_whereAllHold := goodIn_r _ [12, 1, 13, 14, 15, 16, 17, 18, 19, 20, 21, 22, 23, 24, 25, 26, 27, 28, 31, 32, 33, 34, 35] (by decide +kernel) (by decide +kernel)
set_option maxRecDepth 20000 in
theorem gX1_partiesBear_X1_whereAllHold : GoodIn wsX1_partiesBear (va_wsS RX1 36 yX1_whereAllHold wsX1_whereAllHold) := goodIn_app (goodIn_of _ (by decide +kernel)) ggX1_partiesBear_X1_whereAllHold
theorem dX1_partiesBear_0 : decode cX1_partiesBear 0 = .ok (.iconst 3, 1) := by decide +kernel
theorem dX1_partiesBear_1 : decode cX1_partiesBear 1 = .ok (.istore_n 3, 1) := by decide +kernel
theorem dX1_partiesBear_2 : decode cX1_partiesBear 2 = .ok (.iconst 0, 1) := by decide +kernel
theorem dX1_partiesBear_3 : decode cX1_partiesBear 3 = .ok (.istore 4, 2) := by decide +kernel
theorem dX1_partiesBear_5 : decode cX1_partiesBear 5 = .ok (.iload 4, 2) := by decide +kernel
theorem dX1_partiesBear_7 : decode cX1_partiesBear 7 = .ok (.iconst 4, 1) := by decide +kernel
theorem dX1_partiesBear_8 : decode cX1_partiesBear 8 = .ok (.if_icmp .ge 61, 3) := by decide +kernel
theorem dX1_partiesBear_11 : decode cX1_partiesBear 11 = .ok (.aload_n 2, 1) := by decide +kernel
theorem dX1_partiesBear_12 : decode cX1_partiesBear 12 = .ok (.iload 4, 2) := by decide +kernel
theorem dX1_partiesBear_14 : decode cX1_partiesBear 14 = .ok (.invokevirtual 46, 3) := by decide +kernel
theorem dX1_partiesBear_17 : decode cX1_partiesBear 17 = .ok (.lstore 5, 2) := by decide +kernel
theorem dX1_partiesBear_19 : decode cX1_partiesBear 19 = .ok (.aload_n 1, 1) := by decide +kernel
theorem dX1_partiesBear_20 : decode cX1_partiesBear 20 = .ok (.iconst 0, 1) := by decide +kernel
theorem dX1_partiesBear_21 : decode cX1_partiesBear 21 = .ok (.iload 4, 2) := by decide +kernel
theorem dX1_partiesBear_23 : decode cX1_partiesBear 23 = .ok (.invokestatic 36, 3) := by decide +kernel
theorem dX1_partiesBear_26 : decode cX1_partiesBear 26 = .ok (.lload 5, 2) := by decide +kernel
theorem dX1_partiesBear_28 : decode cX1_partiesBear 28 = .ok (.ldc2_w 20, 3) := by decide +kernel
theorem dX1_partiesBear_31 : decode cX1_partiesBear 31 = .ok (.lxor, 1) := by decide +kernel
theorem dX1_partiesBear_32 : decode cX1_partiesBear 32 = .ok (.land, 1) := by decide +kernel
theorem dX1_partiesBear_33 : decode cX1_partiesBear 33 = .ok (.lconst 0, 1) := by decide +kernel
theorem dX1_partiesBear_34 : decode cX1_partiesBear 34 = .ok (.lcmp, 1) := by decide +kernel
theorem dX1_partiesBear_35 : decode cX1_partiesBear 35 = .ok (.ifCond .eq 8, 3) := by decide +kernel
theorem dX1_partiesBear_38 : decode cX1_partiesBear 38 = .ok (.iload_n 3, 1) := by decide +kernel
theorem dX1_partiesBear_39 : decode cX1_partiesBear 39 = .ok (.bipush (-2), 2) := by decide +kernel
theorem dX1_partiesBear_41 : decode cX1_partiesBear 41 = .ok (.iand, 1) := by decide +kernel
theorem dX1_partiesBear_42 : decode cX1_partiesBear 42 = .ok (.istore_n 3, 1) := by decide +kernel
theorem dX1_partiesBear_43 : decode cX1_partiesBear 43 = .ok (.aload_n 1, 1) := by decide +kernel
theorem dX1_partiesBear_44 : decode cX1_partiesBear 44 = .ok (.iconst 1, 1) := by decide +kernel
theorem dX1_partiesBear_45 : decode cX1_partiesBear 45 = .ok (.iload 4, 2) := by decide +kernel
theorem dX1_partiesBear_47 : decode cX1_partiesBear 47 = .ok (.invokestatic 36, 3) := by decide +kernel
theorem dX1_partiesBear_50 : decode cX1_partiesBear 50 = .ok (.lload 5, 2) := by decide +kernel
theorem dX1_partiesBear_52 : decode cX1_partiesBear 52 = .ok (.land, 1) := by decide +kernel
theorem dX1_partiesBear_53 : decode cX1_partiesBear 53 = .ok (.lconst 0, 1) := by decide +kernel
theorem dX1_partiesBear_54 : decode cX1_partiesBear 54 = .ok (.lcmp, 1) := by decide +kernel
theorem dX1_partiesBear_55 : decode cX1_partiesBear 55 = .ok (.ifCond .eq 8, 3) := by decide +kernel
theorem dX1_partiesBear_58 : decode cX1_partiesBear 58 = .ok (.iload_n 3, 1) := by decide +kernel
theorem dX1_partiesBear_59 : decode cX1_partiesBear 59 = .ok (.bipush (-3), 2) := by decide +kernel
theorem dX1_partiesBear_61 : decode cX1_partiesBear 61 = .ok (.iand, 1) := by decide +kernel
theorem dX1_partiesBear_62 : decode cX1_partiesBear 62 = .ok (.istore_n 3, 1) := by decide +kernel
theorem dX1_partiesBear_63 : decode cX1_partiesBear 63 = .ok (.iinc 4 1, 3) := by decide +kernel
theorem dX1_partiesBear_66 : decode cX1_partiesBear 66 = .ok (.goto (-61), 3) := by decide +kernel
theorem dX1_partiesBear_69 : decode cX1_partiesBear 69 = .ok (.iload_n 3, 1) := by decide +kernel
theorem dX1_partiesBear_70 : decode cX1_partiesBear 70 = .ok (.ireturn, 1) := by decide +kernel
set_option maxRecDepth 20000 in
theorem ggX1_leastOf_X1_readClauses : GoodIn wsX1_leastOf wsX1_readClauses := goodIn_r _ [6, 1, 7, 8, 9, 10, 11, 12, 13, 14, 15, 16, 17, 18, 19, 20, 21, 22, 23, 24, 47, 48, 49, 50, 51, 52, 53] (by decide +kernel) (by decide +kernel)
set_option maxRecDepth 20000 in
theorem gX1_leastOf_X1_readClauses : GoodIn wsX1_leastOf (wsV RX1 52 RX1 yX1_readClauses wsX1_readClauses) := goodIn_app (goodIn_of _ (by decide +kernel)) ggX1_leastOf_X1_readClauses
set_option maxRecDepth 20000 in
theorem ggX1_leastOf_X1_fillRow : GoodIn wsX1_leastOf wsX1_fillRow := goodIn_r _ [28, 8, 7, 29, 30, 5, 31, 32, 33, 34, 35, 36, 37, 38, 39, 40, 52, 53] (by decide +kernel) (by decide +kernel)
set_option maxRecDepth 20000 in
theorem gX1_leastOf_X1_fillRow : GoodIn wsX1_leastOf (wsV RX1 56 RX1 yX1_fillRow wsX1_fillRow) := goodIn_app (goodIn_of _ (by decide +kernel)) ggX1_leastOf_X1_fillRow
set_option maxRecDepth 20000 in
theorem ggX1_leastOf_J6_bitCount_0f7a4 : GoodIn wsX1_leastOf wsJ6_bitCount_0f7a4 := goodIn_r _ [43, 44, 45, 46] (by decide +kernel) (by decide +kernel)
set_option maxRecDepth 20000 in
theorem gX1_leastOf_J6_bitCount_0f7a4 : GoodIn wsX1_leastOf (va_wsS RX1 60 yJ6_bitCount_0f7a4 wsJ6_bitCount_0f7a4) := goodIn_app (goodIn_of _ (by decide +kernel)) ggX1_leastOf_J6_bitCount_0f7a4
theorem dX1_leastOf_0 : decode cX1_leastOf 0 = .ok (.aload_n 0, 1) := by decide +kernel
theorem dX1_leastOf_1 : decode cX1_leastOf 1 = .ok (.aload_n 1, 1) := by decide +kernel
theorem dX1_leastOf_2 : decode cX1_leastOf 2 = .ok (.invokevirtual 52, 3) := by decide +kernel
theorem dX1_leastOf_5 : decode cX1_leastOf 5 = .ok (.iconst (-1), 1) := by decide +kernel
theorem dX1_leastOf_6 : decode cX1_leastOf 6 = .ok (.istore_n 2, 1) := by decide +kernel
theorem dX1_leastOf_7 : decode cX1_leastOf 7 = .ok (.bipush 11, 2) := by decide +kernel
theorem dX1_leastOf_9 : decode cX1_leastOf 9 = .ok (.istore_n 3, 1) := by decide +kernel
theorem dX1_leastOf_10 : decode cX1_leastOf 10 = .ok (.iconst 1, 1) := by decide +kernel
theorem dX1_leastOf_11 : decode cX1_leastOf 11 = .ok (.istore 4, 2) := by decide +kernel
theorem dX1_leastOf_13 : decode cX1_leastOf 13 = .ok (.iload 4, 2) := by decide +kernel
theorem dX1_leastOf_15 : decode cX1_leastOf 15 = .ok (.iconst 1, 1) := by decide +kernel
theorem dX1_leastOf_16 : decode cX1_leastOf 16 = .ok (.aload_n 1, 1) := by decide +kernel
theorem dX1_leastOf_17 : decode cX1_leastOf 17 = .ok (.getfield 22, 3) := by decide +kernel
theorem dX1_leastOf_20 : decode cX1_leastOf 20 = .ok (.ishl, 1) := by decide +kernel
theorem dX1_leastOf_21 : decode cX1_leastOf 21 = .ok (.if_icmp .ge 40, 3) := by decide +kernel
theorem dX1_leastOf_24 : decode cX1_leastOf 24 = .ok (.aload_n 0, 1) := by decide +kernel
theorem dX1_leastOf_25 : decode cX1_leastOf 25 = .ok (.iload 4, 2) := by decide +kernel
theorem dX1_leastOf_27 : decode cX1_leastOf 27 = .ok (.invokevirtual 56, 3) := by decide +kernel
theorem dX1_leastOf_30 : decode cX1_leastOf 30 = .ok (.istore 5, 2) := by decide +kernel
theorem dX1_leastOf_32 : decode cX1_leastOf 32 = .ok (.iload 5, 2) := by decide +kernel
theorem dX1_leastOf_34 : decode cX1_leastOf 34 = .ok (.ifCond .eq 21, 3) := by decide +kernel
theorem dX1_leastOf_37 : decode cX1_leastOf 37 = .ok (.iload 4, 2) := by decide +kernel
theorem dX1_leastOf_39 : decode cX1_leastOf 39 = .ok (.invokestatic 60, 3) := by decide +kernel
theorem dX1_leastOf_42 : decode cX1_leastOf 42 = .ok (.iload_n 3, 1) := by decide +kernel
theorem dX1_leastOf_43 : decode cX1_leastOf 43 = .ok (.if_icmp .ge 12, 3) := by decide +kernel
theorem dX1_leastOf_46 : decode cX1_leastOf 46 = .ok (.iload 4, 2) := by decide +kernel
theorem dX1_leastOf_48 : decode cX1_leastOf 48 = .ok (.istore_n 2, 1) := by decide +kernel
theorem dX1_leastOf_49 : decode cX1_leastOf 49 = .ok (.iload 4, 2) := by decide +kernel
theorem dX1_leastOf_51 : decode cX1_leastOf 51 = .ok (.invokestatic 60, 3) := by decide +kernel
theorem dX1_leastOf_54 : decode cX1_leastOf 54 = .ok (.istore_n 3, 1) := by decide +kernel
theorem dX1_leastOf_55 : decode cX1_leastOf 55 = .ok (.iinc 4 1, 3) := by decide +kernel
theorem dX1_leastOf_58 : decode cX1_leastOf 58 = .ok (.goto (-45), 3) := by decide +kernel
theorem dX1_leastOf_61 : decode cX1_leastOf 61 = .ok (.iload_n 2, 1) := by decide +kernel
theorem dX1_leastOf_62 : decode cX1_leastOf 62 = .ok (.ireturn, 1) := by decide +kernel
set_option maxRecDepth 20000 in
theorem ggX1_readClauses_X5_cell : GoodIn wsX1_readClauses wsX5_cell := goodIn_r _ [9, 10, 20, 21, 22, 23, 24] (by decide +kernel) (by decide +kernel)
set_option maxRecDepth 20000 in
theorem gX1_readClauses_X5_cell : GoodIn wsX1_readClauses (wsV RX1 28 RX5 yX5_cell wsX5_cell) := goodIn_app (goodIn_of _ (by decide +kernel)) ggX1_readClauses_X5_cell
set_option maxRecDepth 20000 in
theorem ggX1_readClauses_X8_whereClauseHolds : GoodIn wsX1_readClauses wsX8_whereClauseHolds := goodIn_r _ [14, 15, 16, 17, 13, 18, 19] (by decide +kernel) (by decide +kernel)
set_option maxRecDepth 20000 in
theorem gX1_readClauses_X8_whereClauseHolds : GoodIn wsX1_readClauses (va_wsS RX1 32 yX8_whereClauseHolds wsX8_whereClauseHolds) := goodIn_app (goodIn_of _ (by decide +kernel)) ggX1_readClauses_X8_whereClauseHolds
theorem dX1_readClauses_0 : decode cX1_readClauses 0 = .ok (.iconst 0, 1) := by decide +kernel
theorem dX1_readClauses_1 : decode cX1_readClauses 1 = .ok (.istore_n 2, 1) := by decide +kernel
theorem dX1_readClauses_2 : decode cX1_readClauses 2 = .ok (.iload_n 2, 1) := by decide +kernel
theorem dX1_readClauses_3 : decode cX1_readClauses 3 = .ok (.aload_n 1, 1) := by decide +kernel
theorem dX1_readClauses_4 : decode cX1_readClauses 4 = .ok (.getfield 22, 3) := by decide +kernel
theorem dX1_readClauses_7 : decode cX1_readClauses 7 = .ok (.if_icmp .ge 48, 3) := by decide +kernel
theorem dX1_readClauses_10 : decode cX1_readClauses 10 = .ok (.iconst 0, 1) := by decide +kernel
theorem dX1_readClauses_11 : decode cX1_readClauses 11 = .ok (.istore_n 3, 1) := by decide +kernel
theorem dX1_readClauses_12 : decode cX1_readClauses 12 = .ok (.iload_n 3, 1) := by decide +kernel
theorem dX1_readClauses_13 : decode cX1_readClauses 13 = .ok (.iconst 4, 1) := by decide +kernel
theorem dX1_readClauses_14 : decode cX1_readClauses 14 = .ok (.if_icmp .ge 35, 3) := by decide +kernel
theorem dX1_readClauses_17 : decode cX1_readClauses 17 = .ok (.aload_n 0, 1) := by decide +kernel
theorem dX1_readClauses_18 : decode cX1_readClauses 18 = .ok (.getfield 17, 3) := by decide +kernel
theorem dX1_readClauses_21 : decode cX1_readClauses 21 = .ok (.iload_n 2, 1) := by decide +kernel
theorem dX1_readClauses_22 : decode cX1_readClauses 22 = .ok (.iconst 4, 1) := by decide +kernel
theorem dX1_readClauses_23 : decode cX1_readClauses 23 = .ok (.imul, 1) := by decide +kernel
theorem dX1_readClauses_24 : decode cX1_readClauses 24 = .ok (.iload_n 3, 1) := by decide +kernel
theorem dX1_readClauses_25 : decode cX1_readClauses 25 = .ok (.iadd, 1) := by decide +kernel
theorem dX1_readClauses_26 : decode cX1_readClauses 26 = .ok (.aload_n 1, 1) := by decide +kernel
theorem dX1_readClauses_27 : decode cX1_readClauses 27 = .ok (.iload_n 2, 1) := by decide +kernel
theorem dX1_readClauses_28 : decode cX1_readClauses 28 = .ok (.iconst 0, 1) := by decide +kernel
theorem dX1_readClauses_29 : decode cX1_readClauses 29 = .ok (.invokevirtual 28, 3) := by decide +kernel
theorem dX1_readClauses_32 : decode cX1_readClauses 32 = .ok (.aload_n 1, 1) := by decide +kernel
theorem dX1_readClauses_33 : decode cX1_readClauses 33 = .ok (.iload_n 2, 1) := by decide +kernel
theorem dX1_readClauses_34 : decode cX1_readClauses 34 = .ok (.iconst 1, 1) := by decide +kernel
theorem dX1_readClauses_35 : decode cX1_readClauses 35 = .ok (.invokevirtual 28, 3) := by decide +kernel
theorem dX1_readClauses_38 : decode cX1_readClauses 38 = .ok (.iload_n 3, 1) := by decide +kernel
theorem dX1_readClauses_39 : decode cX1_readClauses 39 = .ok (.invokestatic 32, 3) := by decide +kernel
theorem dX1_readClauses_42 : decode cX1_readClauses 42 = .ok (.lastore, 1) := by decide +kernel
theorem dX1_readClauses_43 : decode cX1_readClauses 43 = .ok (.iinc 3 1, 3) := by decide +kernel
theorem dX1_readClauses_46 : decode cX1_readClauses 46 = .ok (.goto (-34), 3) := by decide +kernel
theorem dX1_readClauses_49 : decode cX1_readClauses 49 = .ok (.iinc 2 1, 3) := by decide +kernel
theorem dX1_readClauses_52 : decode cX1_readClauses 52 = .ok (.goto (-50), 3) := by decide +kernel
theorem dX1_readClauses_55 : decode cX1_readClauses 55 = .ok (.iconst 0, 1) := by decide +kernel
theorem dX1_readClauses_56 : decode cX1_readClauses 56 = .ok (.istore_n 2, 1) := by decide +kernel
theorem dX1_readClauses_57 : decode cX1_readClauses 57 = .ok (.iload_n 2, 1) := by decide +kernel
theorem dX1_readClauses_58 : decode cX1_readClauses 58 = .ok (.iconst 4, 1) := by decide +kernel
theorem dX1_readClauses_59 : decode cX1_readClauses 59 = .ok (.if_icmp .ge 21, 3) := by decide +kernel
theorem dX1_readClauses_62 : decode cX1_readClauses 62 = .ok (.aload_n 0, 1) := by decide +kernel
theorem dX1_readClauses_63 : decode cX1_readClauses 63 = .ok (.getfield 11, 3) := by decide +kernel
theorem dX1_readClauses_66 : decode cX1_readClauses 66 = .ok (.bipush 40, 2) := by decide +kernel
theorem dX1_readClauses_68 : decode cX1_readClauses 68 = .ok (.iload_n 2, 1) := by decide +kernel
theorem dX1_readClauses_69 : decode cX1_readClauses 69 = .ok (.iadd, 1) := by decide +kernel
theorem dX1_readClauses_70 : decode cX1_readClauses 70 = .ok (.ldc2_w 20, 3) := by decide +kernel
theorem dX1_readClauses_73 : decode cX1_readClauses 73 = .ok (.lastore, 1) := by decide +kernel
theorem dX1_readClauses_74 : decode cX1_readClauses 74 = .ok (.iinc 2 1, 3) := by decide +kernel
theorem dX1_readClauses_77 : decode cX1_readClauses 77 = .ok (.goto (-20), 3) := by decide +kernel
theorem dX1_readClauses_80 : decode cX1_readClauses 80 = .ok (.return_, 1) := by decide +kernel
set_option maxRecDepth 20000 in
theorem ggX1_fillRow_X1_lowestOf : GoodIn wsX1_fillRow wsX1_lowestOf := goodIn_r _ [6, 7, 8, 9, 10, 11, 12, 13, 14, 15] (by decide +kernel) (by decide +kernel)
set_option maxRecDepth 20000 in
theorem gX1_fillRow_X1_lowestOf : GoodIn wsX1_fillRow (va_wsS RX1 65 yX1_lowestOf wsX1_lowestOf) := goodIn_app (goodIn_of _ (by decide +kernel)) ggX1_fillRow_X1_lowestOf
theorem dX1_fillRow_0 : decode cX1_fillRow 0 = .ok (.iload_n 1, 1) := by decide +kernel
theorem dX1_fillRow_1 : decode cX1_fillRow 1 = .ok (.invokestatic 65, 3) := by decide +kernel
theorem dX1_fillRow_4 : decode cX1_fillRow 4 = .ok (.istore_n 2, 1) := by decide +kernel
theorem dX1_fillRow_5 : decode cX1_fillRow 5 = .ok (.iload_n 1, 1) := by decide +kernel
theorem dX1_fillRow_6 : decode cX1_fillRow 6 = .ok (.iload_n 1, 1) := by decide +kernel
theorem dX1_fillRow_7 : decode cX1_fillRow 7 = .ok (.iconst 1, 1) := by decide +kernel
theorem dX1_fillRow_8 : decode cX1_fillRow 8 = .ok (.isub, 1) := by decide +kernel
theorem dX1_fillRow_9 : decode cX1_fillRow 9 = .ok (.iand, 1) := by decide +kernel
theorem dX1_fillRow_10 : decode cX1_fillRow 10 = .ok (.invokestatic 65, 3) := by decide +kernel
theorem dX1_fillRow_13 : decode cX1_fillRow 13 = .ok (.istore_n 3, 1) := by decide +kernel
theorem dX1_fillRow_14 : decode cX1_fillRow 14 = .ok (.lconst 0, 1) := by decide +kernel
theorem dX1_fillRow_15 : decode cX1_fillRow 15 = .ok (.lstore 4, 2) := by decide +kernel
theorem dX1_fillRow_17 : decode cX1_fillRow 17 = .ok (.iconst 0, 1) := by decide +kernel
theorem dX1_fillRow_18 : decode cX1_fillRow 18 = .ok (.istore 6, 2) := by decide +kernel
theorem dX1_fillRow_20 : decode cX1_fillRow 20 = .ok (.iload 6, 2) := by decide +kernel
theorem dX1_fillRow_22 : decode cX1_fillRow 22 = .ok (.iconst 4, 1) := by decide +kernel
theorem dX1_fillRow_23 : decode cX1_fillRow 23 = .ok (.if_icmp .ge 54, 3) := by decide +kernel
theorem dX1_fillRow_26 : decode cX1_fillRow 26 = .ok (.aload_n 0, 1) := by decide +kernel
theorem dX1_fillRow_27 : decode cX1_fillRow 27 = .ok (.getfield 11, 3) := by decide +kernel
theorem dX1_fillRow_30 : decode cX1_fillRow 30 = .ok (.iload_n 3, 1) := by decide +kernel
theorem dX1_fillRow_31 : decode cX1_fillRow 31 = .ok (.iconst 4, 1) := by decide +kernel
theorem dX1_fillRow_32 : decode cX1_fillRow 32 = .ok (.imul, 1) := by decide +kernel
theorem dX1_fillRow_33 : decode cX1_fillRow 33 = .ok (.iload 6, 2) := by decide +kernel
theorem dX1_fillRow_35 : decode cX1_fillRow 35 = .ok (.iadd, 1) := by decide +kernel
theorem dX1_fillRow_36 : decode cX1_fillRow 36 = .ok (.laload, 1) := by decide +kernel
theorem dX1_fillRow_37 : decode cX1_fillRow 37 = .ok (.aload_n 0, 1) := by decide +kernel
theorem dX1_fillRow_38 : decode cX1_fillRow 38 = .ok (.getfield 17, 3) := by decide +kernel
theorem dX1_fillRow_41 : decode cX1_fillRow 41 = .ok (.iload_n 2, 1) := by decide +kernel
theorem dX1_fillRow_42 : decode cX1_fillRow 42 = .ok (.iconst 4, 1) := by decide +kernel
theorem dX1_fillRow_43 : decode cX1_fillRow 43 = .ok (.imul, 1) := by decide +kernel
theorem dX1_fillRow_44 : decode cX1_fillRow 44 = .ok (.iload 6, 2) := by decide +kernel
theorem dX1_fillRow_46 : decode cX1_fillRow 46 = .ok (.iadd, 1) := by decide +kernel
theorem dX1_fillRow_47 : decode cX1_fillRow 47 = .ok (.laload, 1) := by decide +kernel
theorem dX1_fillRow_48 : decode cX1_fillRow 48 = .ok (.land, 1) := by decide +kernel
theorem dX1_fillRow_49 : decode cX1_fillRow 49 = .ok (.lstore 7, 2) := by decide +kernel
theorem dX1_fillRow_51 : decode cX1_fillRow 51 = .ok (.aload_n 0, 1) := by decide +kernel
theorem dX1_fillRow_52 : decode cX1_fillRow 52 = .ok (.getfield 11, 3) := by decide +kernel
theorem dX1_fillRow_55 : decode cX1_fillRow 55 = .ok (.iload_n 2, 1) := by decide +kernel
theorem dX1_fillRow_56 : decode cX1_fillRow 56 = .ok (.iconst 4, 1) := by decide +kernel
theorem dX1_fillRow_57 : decode cX1_fillRow 57 = .ok (.imul, 1) := by decide +kernel
theorem dX1_fillRow_58 : decode cX1_fillRow 58 = .ok (.iload 6, 2) := by decide +kernel
theorem dX1_fillRow_60 : decode cX1_fillRow 60 = .ok (.iadd, 1) := by decide +kernel
theorem dX1_fillRow_61 : decode cX1_fillRow 61 = .ok (.lload 7, 2) := by decide +kernel
theorem dX1_fillRow_63 : decode cX1_fillRow 63 = .ok (.lastore, 1) := by decide +kernel
theorem dX1_fillRow_64 : decode cX1_fillRow 64 = .ok (.lload 4, 2) := by decide +kernel
theorem dX1_fillRow_66 : decode cX1_fillRow 66 = .ok (.lload 7, 2) := by decide +kernel
theorem dX1_fillRow_68 : decode cX1_fillRow 68 = .ok (.lor, 1) := by decide +kernel
theorem dX1_fillRow_69 : decode cX1_fillRow 69 = .ok (.lstore 4, 2) := by decide +kernel
theorem dX1_fillRow_71 : decode cX1_fillRow 71 = .ok (.iinc 6 1, 3) := by decide +kernel
theorem dX1_fillRow_74 : decode cX1_fillRow 74 = .ok (.goto (-54), 3) := by decide +kernel
theorem dX1_fillRow_77 : decode cX1_fillRow 77 = .ok (.lload 4, 2) := by decide +kernel
theorem dX1_fillRow_79 : decode cX1_fillRow 79 = .ok (.lconst 0, 1) := by decide +kernel
theorem dX1_fillRow_80 : decode cX1_fillRow 80 = .ok (.lcmp, 1) := by decide +kernel
theorem dX1_fillRow_81 : decode cX1_fillRow 81 = .ok (.ifCond .ne 7, 3) := by decide +kernel
theorem dX1_fillRow_84 : decode cX1_fillRow 84 = .ok (.iconst 1, 1) := by decide +kernel
theorem dX1_fillRow_85 : decode cX1_fillRow 85 = .ok (.goto 4, 3) := by decide +kernel
theorem dX1_fillRow_88 : decode cX1_fillRow 88 = .ok (.iconst 0, 1) := by decide +kernel
theorem dX1_fillRow_89 : decode cX1_fillRow 89 = .ok (.ireturn, 1) := by decide +kernel
set_option maxRecDepth 20000 in
theorem ggX1_lowestOf_J6_numberOfTrailingZeros_0f7a4 : GoodIn wsX1_lowestOf wsJ6_numberOfTrailingZeros_0f7a4 := goodIn_r _ [8, 9] (by decide +kernel) (by decide +kernel)
set_option maxRecDepth 20000 in
theorem gX1_lowestOf_J6_numberOfTrailingZeros_0f7a4 : GoodIn wsX1_lowestOf (va_wsS RX1 68 yJ6_numberOfTrailingZeros_0f7a4 wsJ6_numberOfTrailingZeros_0f7a4) := goodIn_app (goodIn_of _ (by decide +kernel)) ggX1_lowestOf_J6_numberOfTrailingZeros_0f7a4
theorem dX1_lowestOf_0 : decode cX1_lowestOf 0 = .ok (.iload_n 0, 1) := by decide +kernel
theorem dX1_lowestOf_1 : decode cX1_lowestOf 1 = .ok (.invokestatic 68, 3) := by decide +kernel
theorem dX1_lowestOf_4 : decode cX1_lowestOf 4 = .ok (.bipush 10, 2) := by decide +kernel
theorem dX1_lowestOf_6 : decode cX1_lowestOf 6 = .ok (.invokestatic 71, 3) := by decide +kernel
theorem dX1_lowestOf_9 : decode cX1_lowestOf 9 = .ok (.ireturn, 1) := by decide +kernel
theorem dX2_init_0 : decode cX2_init 0 = .ok (.aload_n 0, 1) := by decide +kernel
theorem dX2_init_1 : decode cX2_init 1 = .ok (.invokespecial 1, 3) := by decide +kernel
theorem dX2_init_4 : decode cX2_init 4 = .ok (.aload_n 0, 1) := by decide +kernel
theorem dX2_init_5 : decode cX2_init 5 = .ok (.bipush 8, 2) := by decide +kernel
theorem dX2_init_7 : decode cX2_init 7 = .ok (.newarray .int, 2) := by decide +kernel
theorem dX2_init_9 : decode cX2_init 9 = .ok (.putfield 9, 3) := by decide +kernel
theorem dX2_init_12 : decode cX2_init 12 = .ok (.return_, 1) := by decide +kernel
theorem dX2_add_0 : decode cX2_add 0 = .ok (.aload_n 0, 1) := by decide +kernel
theorem dX2_add_1 : decode cX2_add 1 = .ok (.getfield 13, 3) := by decide +kernel
theorem dX2_add_4 : decode cX2_add 4 = .ok (.bipush 8, 2) := by decide +kernel
theorem dX2_add_6 : decode cX2_add 6 = .ok (.if_icmp .ne 28, 3) := by decide +kernel
theorem dX2_add_9 : decode cX2_add 9 = .ok (.aload_n 0, 1) := by decide +kernel
theorem dX2_add_10 : decode cX2_add 10 = .ok (.getfield 9, 3) := by decide +kernel
theorem dX2_add_13 : decode cX2_add 13 = .ok (.iconst 1, 1) := by decide +kernel
theorem dX2_add_14 : decode cX2_add 14 = .ok (.aload_n 0, 1) := by decide +kernel
theorem dX2_add_15 : decode cX2_add 15 = .ok (.getfield 9, 3) := by decide +kernel
theorem dX2_add_18 : decode cX2_add 18 = .ok (.iconst 0, 1) := by decide +kernel
theorem dX2_add_19 : decode cX2_add 19 = .ok (.bipush 7, 2) := by decide +kernel
theorem dX2_add_21 : decode cX2_add 21 = .ok (.invokestatic 17, 3) := by decide +kernel
theorem dX2_add_24 : decode cX2_add 24 = .ok (.aload_n 0, 1) := by decide +kernel
theorem dX2_add_25 : decode cX2_add 25 = .ok (.dup, 1) := by decide +kernel
theorem dX2_add_26 : decode cX2_add 26 = .ok (.getfield 13, 3) := by decide +kernel
theorem dX2_add_29 : decode cX2_add 29 = .ok (.iconst 1, 1) := by decide +kernel
theorem dX2_add_30 : decode cX2_add 30 = .ok (.isub, 1) := by decide +kernel
theorem dX2_add_31 : decode cX2_add 31 = .ok (.putfield 13, 3) := by decide +kernel
theorem dX2_add_34 : decode cX2_add 34 = .ok (.aload_n 0, 1) := by decide +kernel
theorem dX2_add_35 : decode cX2_add 35 = .ok (.getfield 9, 3) := by decide +kernel
theorem dX2_add_38 : decode cX2_add 38 = .ok (.aload_n 0, 1) := by decide +kernel
theorem dX2_add_39 : decode cX2_add 39 = .ok (.getfield 13, 3) := by decide +kernel
theorem dX2_add_42 : decode cX2_add 42 = .ok (.iload_n 1, 1) := by decide +kernel
theorem dX2_add_43 : decode cX2_add 43 = .ok (.iastore, 1) := by decide +kernel
theorem dX2_add_44 : decode cX2_add 44 = .ok (.aload_n 0, 1) := by decide +kernel
theorem dX2_add_45 : decode cX2_add 45 = .ok (.dup, 1) := by decide +kernel
theorem dX2_add_46 : decode cX2_add 46 = .ok (.getfield 13, 3) := by decide +kernel
theorem dX2_add_49 : decode cX2_add 49 = .ok (.iconst 1, 1) := by decide +kernel
theorem dX2_add_50 : decode cX2_add 50 = .ok (.iadd, 1) := by decide +kernel
theorem dX2_add_51 : decode cX2_add 51 = .ok (.putfield 13, 3) := by decide +kernel
theorem dX2_add_54 : decode cX2_add 54 = .ok (.return_, 1) := by decide +kernel
theorem dX2_takeLatest_0 : decode cX2_takeLatest 0 = .ok (.aload_n 0, 1) := by decide +kernel
theorem dX2_takeLatest_1 : decode cX2_takeLatest 1 = .ok (.dup, 1) := by decide +kernel
theorem dX2_takeLatest_2 : decode cX2_takeLatest 2 = .ok (.getfield 13, 3) := by decide +kernel
theorem dX2_takeLatest_5 : decode cX2_takeLatest 5 = .ok (.iconst 1, 1) := by decide +kernel
theorem dX2_takeLatest_6 : decode cX2_takeLatest 6 = .ok (.isub, 1) := by decide +kernel
theorem dX2_takeLatest_7 : decode cX2_takeLatest 7 = .ok (.putfield 13, 3) := by decide +kernel
theorem dX2_takeLatest_10 : decode cX2_takeLatest 10 = .ok (.aload_n 0, 1) := by decide +kernel
theorem dX2_takeLatest_11 : decode cX2_takeLatest 11 = .ok (.getfield 9, 3) := by decide +kernel
theorem dX2_takeLatest_14 : decode cX2_takeLatest 14 = .ok (.aload_n 0, 1) := by decide +kernel
theorem dX2_takeLatest_15 : decode cX2_takeLatest 15 = .ok (.getfield 13, 3) := by decide +kernel
theorem dX2_takeLatest_18 : decode cX2_takeLatest 18 = .ok (.iaload, 1) := by decide +kernel
theorem dX2_takeLatest_19 : decode cX2_takeLatest 19 = .ok (.ireturn, 1) := by decide +kernel
theorem dX3_init_0 : decode cX3_init 0 = .ok (.aload_n 0, 1) := by decide +kernel
theorem dX3_init_1 : decode cX3_init 1 = .ok (.invokespecial 3, 3) := by decide +kernel
theorem dX3_init_4 : decode cX3_init 4 = .ok (.aload_n 0, 1) := by decide +kernel
theorem dX3_init_5 : decode cX3_init 5 = .ok (.sipush 256, 3) := by decide +kernel
theorem dX3_init_8 : decode cX3_init 8 = .ok (.newarray .int, 2) := by decide +kernel
theorem dX3_init_10 : decode cX3_init 10 = .ok (.putfield 9, 3) := by decide +kernel
theorem dX3_init_13 : decode cX3_init 13 = .ok (.aload_n 0, 1) := by decide +kernel
theorem dX3_init_14 : decode cX3_init 14 = .ok (.sipush 256, 3) := by decide +kernel
theorem dX3_init_17 : decode cX3_init 17 = .ok (.newarray .int, 2) := by decide +kernel
theorem dX3_init_19 : decode cX3_init 19 = .ok (.putfield 15, 3) := by decide +kernel
theorem dX3_init_22 : decode cX3_init 22 = .ok (.return_, 1) := by decide +kernel
set_option maxRecDepth 20000 in
theorem ggX3_countOf_X4_isSo : GoodIn wsX3_countOf wsX4_isSo := goodIn_r _ [7, 8, 9, 10, 6, 11, 12, 13, 27, 28] (by decide +kernel) (by decide +kernel)
set_option maxRecDepth 20000 in
theorem gX3_countOf_X4_isSo : GoodIn wsX3_countOf (wsV RX3 18 RX4 yX4_isSo wsX4_isSo) := goodIn_app (goodIn_of _ (by decide +kernel)) ggX3_countOf_X4_isSo
set_option maxRecDepth 20000 in
theorem ggX3_countOf_X3_tellBack : GoodIn wsX3_countOf wsX3_tellBack := goodIn_r _ [18, 2, 1, 19, 20, 21, 17, 22, 23, 24, 25, 26] (by decide +kernel) (by decide +kernel)
set_option maxRecDepth 20000 in
theorem gX3_countOf_X3_tellBack : GoodIn wsX3_countOf (wsV RX3 28 RX3 yX3_tellBack wsX3_tellBack) := goodIn_app (goodIn_of _ (by decide +kernel)) ggX3_countOf_X3_tellBack
theorem dX3_countOf_0 : decode cX3_countOf 0 = .ok (.iconst 0, 1) := by decide +kernel
theorem dX3_countOf_1 : decode cX3_countOf 1 = .ok (.istore_n 2, 1) := by decide +kernel
theorem dX3_countOf_2 : decode cX3_countOf 2 = .ok (.iload_n 2, 1) := by decide +kernel
theorem dX3_countOf_3 : decode cX3_countOf 3 = .ok (.sipush 256, 3) := by decide +kernel
theorem dX3_countOf_6 : decode cX3_countOf 6 = .ok (.if_icmp .ge 28, 3) := by decide +kernel
theorem dX3_countOf_9 : decode cX3_countOf 9 = .ok (.aload_n 0, 1) := by decide +kernel
theorem dX3_countOf_10 : decode cX3_countOf 10 = .ok (.getfield 9, 3) := by decide +kernel
theorem dX3_countOf_13 : decode cX3_countOf 13 = .ok (.iload_n 2, 1) := by decide +kernel
theorem dX3_countOf_14 : decode cX3_countOf 14 = .ok (.aload_n 1, 1) := by decide +kernel
theorem dX3_countOf_15 : decode cX3_countOf 15 = .ok (.iload_n 2, 1) := by decide +kernel
theorem dX3_countOf_16 : decode cX3_countOf 16 = .ok (.invokevirtual 18, 3) := by decide +kernel
theorem dX3_countOf_19 : decode cX3_countOf 19 = .ok (.ifCond .eq 7, 3) := by decide +kernel
theorem dX3_countOf_22 : decode cX3_countOf 22 = .ok (.iconst 1, 1) := by decide +kernel
theorem dX3_countOf_23 : decode cX3_countOf 23 = .ok (.goto 4, 3) := by decide +kernel
theorem dX3_countOf_26 : decode cX3_countOf 26 = .ok (.iconst 0, 1) := by decide +kernel
theorem dX3_countOf_27 : decode cX3_countOf 27 = .ok (.iastore, 1) := by decide +kernel
theorem dX3_countOf_28 : decode cX3_countOf 28 = .ok (.iinc 2 1, 3) := by decide +kernel
theorem dX3_countOf_31 : decode cX3_countOf 31 = .ok (.goto (-29), 3) := by decide +kernel
theorem dX3_countOf_34 : decode cX3_countOf 34 = .ok (.aload_n 0, 1) := by decide +kernel
theorem dX3_countOf_35 : decode cX3_countOf 35 = .ok (.iconst 0, 1) := by decide +kernel
theorem dX3_countOf_36 : decode cX3_countOf 36 = .ok (.putfield 24, 3) := by decide +kernel
theorem dX3_countOf_39 : decode cX3_countOf 39 = .ok (.bipush 7, 2) := by decide +kernel
theorem dX3_countOf_41 : decode cX3_countOf 41 = .ok (.istore_n 2, 1) := by decide +kernel
theorem dX3_countOf_42 : decode cX3_countOf 42 = .ok (.iload_n 2, 1) := by decide +kernel
theorem dX3_countOf_43 : decode cX3_countOf 43 = .ok (.ifCond .lt 14, 3) := by decide +kernel
theorem dX3_countOf_46 : decode cX3_countOf 46 = .ok (.aload_n 0, 1) := by decide +kernel
theorem dX3_countOf_47 : decode cX3_countOf 47 = .ok (.iload_n 2, 1) := by decide +kernel
theorem dX3_countOf_48 : decode cX3_countOf 48 = .ok (.invokevirtual 28, 3) := by decide +kernel
theorem dX3_countOf_51 : decode cX3_countOf 51 = .ok (.iinc 2 (-1), 3) := by decide +kernel
theorem dX3_countOf_54 : decode cX3_countOf 54 = .ok (.goto (-12), 3) := by decide +kernel
theorem dX3_countOf_57 : decode cX3_countOf 57 = .ok (.aload_n 0, 1) := by decide +kernel
theorem dX3_countOf_58 : decode cX3_countOf 58 = .ok (.getfield 24, 3) := by decide +kernel
theorem dX3_countOf_61 : decode cX3_countOf 61 = .ok (.ireturn, 1) := by decide +kernel
set_option maxRecDepth 20000 in
theorem ggX3_tellBack_X3_nameOf : GoodIn wsX3_tellBack wsX3_nameOf := goodIn_r _ [7, 1, 8, 9, 10, 11] (by decide +kernel) (by decide +kernel)
set_option maxRecDepth 20000 in
theorem gX3_tellBack_X3_nameOf : GoodIn wsX3_tellBack (wsV RX3 32 RX3 yX3_nameOf wsX3_nameOf) := goodIn_app (goodIn_of _ (by decide +kernel)) ggX3_tellBack_X3_nameOf
theorem dX3_tellBack_0 : decode cX3_tellBack 0 = .ok (.aload_n 0, 1) := by decide +kernel
theorem dX3_tellBack_1 : decode cX3_tellBack 1 = .ok (.getfield 24, 3) := by decide +kernel
theorem dX3_tellBack_4 : decode cX3_tellBack 4 = .ok (.istore_n 2, 1) := by decide +kernel
theorem dX3_tellBack_5 : decode cX3_tellBack 5 = .ok (.iconst 1, 1) := by decide +kernel
theorem dX3_tellBack_6 : decode cX3_tellBack 6 = .ok (.iload_n 1, 1) := by decide +kernel
theorem dX3_tellBack_7 : decode cX3_tellBack 7 = .ok (.ishl, 1) := by decide +kernel
theorem dX3_tellBack_8 : decode cX3_tellBack 8 = .ok (.istore_n 3, 1) := by decide +kernel
theorem dX3_tellBack_9 : decode cX3_tellBack 9 = .ok (.iconst 0, 1) := by decide +kernel
theorem dX3_tellBack_10 : decode cX3_tellBack 10 = .ok (.istore 4, 2) := by decide +kernel
theorem dX3_tellBack_12 : decode cX3_tellBack 12 = .ok (.iload 4, 2) := by decide +kernel
theorem dX3_tellBack_14 : decode cX3_tellBack 14 = .ok (.iload_n 3, 1) := by decide +kernel
theorem dX3_tellBack_15 : decode cX3_tellBack 15 = .ok (.if_icmp .ge 61, 3) := by decide +kernel
theorem dX3_tellBack_18 : decode cX3_tellBack 18 = .ok (.aload_n 0, 1) := by decide +kernel
theorem dX3_tellBack_19 : decode cX3_tellBack 19 = .ok (.getfield 9, 3) := by decide +kernel
theorem dX3_tellBack_22 : decode cX3_tellBack 22 = .ok (.iload 4, 2) := by decide +kernel
theorem dX3_tellBack_24 : decode cX3_tellBack 24 = .ok (.iaload, 1) := by decide +kernel
theorem dX3_tellBack_25 : decode cX3_tellBack 25 = .ok (.aload_n 0, 1) := by decide +kernel
theorem dX3_tellBack_26 : decode cX3_tellBack 26 = .ok (.getfield 9, 3) := by decide +kernel
theorem dX3_tellBack_29 : decode cX3_tellBack 29 = .ok (.iload 4, 2) := by decide +kernel
theorem dX3_tellBack_31 : decode cX3_tellBack 31 = .ok (.iload_n 3, 1) := by decide +kernel
theorem dX3_tellBack_32 : decode cX3_tellBack 32 = .ok (.ior, 1) := by decide +kernel
theorem dX3_tellBack_33 : decode cX3_tellBack 33 = .ok (.iaload, 1) := by decide +kernel
theorem dX3_tellBack_34 : decode cX3_tellBack 34 = .ok (.if_icmp .eq 36, 3) := by decide +kernel
theorem dX3_tellBack_37 : decode cX3_tellBack 37 = .ok (.aload_n 0, 1) := by decide +kernel
theorem dX3_tellBack_38 : decode cX3_tellBack 38 = .ok (.getfield 9, 3) := by decide +kernel
theorem dX3_tellBack_41 : decode cX3_tellBack 41 = .ok (.iload 4, 2) := by decide +kernel
theorem dX3_tellBack_43 : decode cX3_tellBack 43 = .ok (.aload_n 0, 1) := by decide +kernel
theorem dX3_tellBack_44 : decode cX3_tellBack 44 = .ok (.aload_n 0, 1) := by decide +kernel
theorem dX3_tellBack_45 : decode cX3_tellBack 45 = .ok (.getfield 9, 3) := by decide +kernel
theorem dX3_tellBack_48 : decode cX3_tellBack 48 = .ok (.iload 4, 2) := by decide +kernel
theorem dX3_tellBack_50 : decode cX3_tellBack 50 = .ok (.iaload, 1) := by decide +kernel
theorem dX3_tellBack_51 : decode cX3_tellBack 51 = .ok (.sipush 256, 3) := by decide +kernel
theorem dX3_tellBack_54 : decode cX3_tellBack 54 = .ok (.imul, 1) := by decide +kernel
theorem dX3_tellBack_55 : decode cX3_tellBack 55 = .ok (.aload_n 0, 1) := by decide +kernel
theorem dX3_tellBack_56 : decode cX3_tellBack 56 = .ok (.getfield 9, 3) := by decide +kernel
theorem dX3_tellBack_59 : decode cX3_tellBack 59 = .ok (.iload 4, 2) := by decide +kernel
theorem dX3_tellBack_61 : decode cX3_tellBack 61 = .ok (.iload_n 3, 1) := by decide +kernel
theorem dX3_tellBack_62 : decode cX3_tellBack 62 = .ok (.ior, 1) := by decide +kernel
theorem dX3_tellBack_63 : decode cX3_tellBack 63 = .ok (.iaload, 1) := by decide +kernel
theorem dX3_tellBack_64 : decode cX3_tellBack 64 = .ok (.iadd, 1) := by decide +kernel
theorem dX3_tellBack_65 : decode cX3_tellBack 65 = .ok (.iload_n 2, 1) := by decide +kernel
theorem dX3_tellBack_66 : decode cX3_tellBack 66 = .ok (.invokevirtual 32, 3) := by decide +kernel
theorem dX3_tellBack_69 : decode cX3_tellBack 69 = .ok (.iastore, 1) := by decide +kernel
theorem dX3_tellBack_70 : decode cX3_tellBack 70 = .ok (.iinc 4 1, 3) := by decide +kernel
theorem dX3_tellBack_73 : decode cX3_tellBack 73 = .ok (.goto (-61), 3) := by decide +kernel
theorem dX3_tellBack_76 : decode cX3_tellBack 76 = .ok (.return_, 1) := by decide +kernel
theorem dX3_nameOf_0 : decode cX3_nameOf 0 = .ok (.iload_n 2, 1) := by decide +kernel
theorem dX3_nameOf_1 : decode cX3_nameOf 1 = .ok (.istore_n 3, 1) := by decide +kernel
theorem dX3_nameOf_2 : decode cX3_nameOf 2 = .ok (.iload_n 3, 1) := by decide +kernel
theorem dX3_nameOf_3 : decode cX3_nameOf 3 = .ok (.aload_n 0, 1) := by decide +kernel
theorem dX3_nameOf_4 : decode cX3_nameOf 4 = .ok (.getfield 24, 3) := by decide +kernel
theorem dX3_nameOf_7 : decode cX3_nameOf 7 = .ok (.if_icmp .ge 23, 3) := by decide +kernel
theorem dX3_nameOf_10 : decode cX3_nameOf 10 = .ok (.aload_n 0, 1) := by decide +kernel
theorem dX3_nameOf_11 : decode cX3_nameOf 11 = .ok (.getfield 15, 3) := by decide +kernel
theorem dX3_nameOf_14 : decode cX3_nameOf 14 = .ok (.iload_n 3, 1) := by decide +kernel
theorem dX3_nameOf_15 : decode cX3_nameOf 15 = .ok (.iaload, 1) := by decide +kernel
theorem dX3_nameOf_16 : decode cX3_nameOf 16 = .ok (.iload_n 1, 1) := by decide +kernel
theorem dX3_nameOf_17 : decode cX3_nameOf 17 = .ok (.if_icmp .ne 7, 3) := by decide +kernel
theorem dX3_nameOf_20 : decode cX3_nameOf 20 = .ok (.iload_n 3, 1) := by decide +kernel
theorem dX3_nameOf_21 : decode cX3_nameOf 21 = .ok (.iconst 2, 1) := by decide +kernel
theorem dX3_nameOf_22 : decode cX3_nameOf 22 = .ok (.iadd, 1) := by decide +kernel
theorem dX3_nameOf_23 : decode cX3_nameOf 23 = .ok (.ireturn, 1) := by decide +kernel
theorem dX3_nameOf_24 : decode cX3_nameOf 24 = .ok (.iinc 3 1, 3) := by decide +kernel
theorem dX3_nameOf_27 : decode cX3_nameOf 27 = .ok (.goto (-25), 3) := by decide +kernel
theorem dX3_nameOf_30 : decode cX3_nameOf 30 = .ok (.aload_n 0, 1) := by decide +kernel
theorem dX3_nameOf_31 : decode cX3_nameOf 31 = .ok (.getfield 15, 3) := by decide +kernel
theorem dX3_nameOf_34 : decode cX3_nameOf 34 = .ok (.aload_n 0, 1) := by decide +kernel
theorem dX3_nameOf_35 : decode cX3_nameOf 35 = .ok (.getfield 24, 3) := by decide +kernel
theorem dX3_nameOf_38 : decode cX3_nameOf 38 = .ok (.iload_n 1, 1) := by decide +kernel
theorem dX3_nameOf_39 : decode cX3_nameOf 39 = .ok (.iastore, 1) := by decide +kernel
theorem dX3_nameOf_40 : decode cX3_nameOf 40 = .ok (.aload_n 0, 1) := by decide +kernel
theorem dX3_nameOf_41 : decode cX3_nameOf 41 = .ok (.dup, 1) := by decide +kernel
theorem dX3_nameOf_42 : decode cX3_nameOf 42 = .ok (.getfield 24, 3) := by decide +kernel
theorem dX3_nameOf_45 : decode cX3_nameOf 45 = .ok (.iconst 1, 1) := by decide +kernel
theorem dX3_nameOf_46 : decode cX3_nameOf 46 = .ok (.iadd, 1) := by decide +kernel
theorem dX3_nameOf_47 : decode cX3_nameOf 47 = .ok (.putfield 24, 3) := by decide +kernel
theorem dX3_nameOf_50 : decode cX3_nameOf 50 = .ok (.aload_n 0, 1) := by decide +kernel
theorem dX3_nameOf_51 : decode cX3_nameOf 51 = .ok (.getfield 24, 3) := by decide +kernel
theorem dX3_nameOf_54 : decode cX3_nameOf 54 = .ok (.iconst 1, 1) := by decide +kernel
theorem dX3_nameOf_55 : decode cX3_nameOf 55 = .ok (.isub, 1) := by decide +kernel
theorem dX3_nameOf_56 : decode cX3_nameOf 56 = .ok (.iconst 2, 1) := by decide +kernel
theorem dX3_nameOf_57 : decode cX3_nameOf 57 = .ok (.iadd, 1) := by decide +kernel
theorem dX3_nameOf_58 : decode cX3_nameOf 58 = .ok (.ireturn, 1) := by decide +kernel
theorem dX4_init_0 : decode cX4_init 0 = .ok (.aload_n 0, 1) := by decide +kernel
theorem dX4_init_1 : decode cX4_init 1 = .ok (.invokespecial 3, 3) := by decide +kernel
theorem dX4_init_4 : decode cX4_init 4 = .ok (.aload_n 0, 1) := by decide +kernel
theorem dX4_init_5 : decode cX4_init 5 = .ok (.sipush 160, 3) := by decide +kernel
theorem dX4_init_8 : decode cX4_init 8 = .ok (.newarray .long, 2) := by decide +kernel
theorem dX4_init_10 : decode cX4_init 10 = .ok (.putfield 11, 3) := by decide +kernel
theorem dX4_init_13 : decode cX4_init 13 = .ok (.return_, 1) := by decide +kernel
set_option maxRecDepth 20000 in
theorem ggX4_read_X4_ofClause : GoodIn wsX4_read wsX4_ofClause := goodIn_r _ [7, 8, 9, 10, 11, 12, 13, 14, 15, 16, 17, 18, 19, 20, 21, 22, 23, 24, 25, 26, 27, 28, 29, 41, 42, 43, 44, 45] (by decide +kernel) (by decide +kernel)
set_option maxRecDepth 20000 in
theorem gX4_read_X4_ofClause : GoodIn wsX4_read (va_wsS RX4 23 yX4_ofClause wsX4_ofClause) := goodIn_app (goodIn_of _ (by decide +kernel)) ggX4_read_X4_ofClause
set_option maxRecDepth 20000 in
theorem ggX4_read_X4_ofStep : GoodIn wsX4_read wsX4_ofStep := goodIn_r _ [33, 1, 8, 9, 10, 11, 12, 13, 14, 34, 35, 36, 37, 19, 20, 38, 27, 23, 28, 29, 25, 39, 40, 41, 42, 43, 44, 45] (by decide +kernel) (by decide +kernel)
set_option maxRecDepth 20000 in
theorem gX4_read_X4_ofStep : GoodIn wsX4_read (wsV RX4 27 RX4 yX4_ofStep wsX4_ofStep) := goodIn_app (goodIn_of _ (by decide +kernel)) ggX4_read_X4_ofStep
theorem dX4_read_0 : decode cX4_read 0 = .ok (.iconst 0, 1) := by decide +kernel
theorem dX4_read_1 : decode cX4_read 1 = .ok (.istore 4, 2) := by decide +kernel
theorem dX4_read_3 : decode cX4_read 3 = .ok (.iload 4, 2) := by decide +kernel
theorem dX4_read_5 : decode cX4_read 5 = .ok (.iload_n 3, 1) := by decide +kernel
theorem dX4_read_6 : decode cX4_read 6 = .ok (.if_icmp .gt 67, 3) := by decide +kernel
theorem dX4_read_9 : decode cX4_read 9 = .ok (.iconst 0, 1) := by decide +kernel
theorem dX4_read_10 : decode cX4_read 10 = .ok (.istore 5, 2) := by decide +kernel
theorem dX4_read_12 : decode cX4_read 12 = .ok (.iload 5, 2) := by decide +kernel
theorem dX4_read_14 : decode cX4_read 14 = .ok (.iconst 4, 1) := by decide +kernel
theorem dX4_read_15 : decode cX4_read 15 = .ok (.if_icmp .ge 52, 3) := by decide +kernel
theorem dX4_read_18 : decode cX4_read 18 = .ok (.aload_n 0, 1) := by decide +kernel
theorem dX4_read_19 : decode cX4_read 19 = .ok (.getfield 11, 3) := by decide +kernel
theorem dX4_read_22 : decode cX4_read 22 = .ok (.iload 4, 2) := by decide +kernel
theorem dX4_read_24 : decode cX4_read 24 = .ok (.iconst 4, 1) := by decide +kernel
theorem dX4_read_25 : decode cX4_read 25 = .ok (.imul, 1) := by decide +kernel
theorem dX4_read_26 : decode cX4_read 26 = .ok (.iload 5, 2) := by decide +kernel
theorem dX4_read_28 : decode cX4_read 28 = .ok (.iadd, 1) := by decide +kernel
theorem dX4_read_29 : decode cX4_read 29 = .ok (.iload 4, 2) := by decide +kernel
theorem dX4_read_31 : decode cX4_read 31 = .ok (.aload_n 1, 1) := by decide +kernel
theorem dX4_read_32 : decode cX4_read 32 = .ok (.getfield 17, 3) := by decide +kernel
theorem dX4_read_35 : decode cX4_read 35 = .ok (.if_icmp .ge 15, 3) := by decide +kernel
theorem dX4_read_38 : decode cX4_read 38 = .ok (.aload_n 1, 1) := by decide +kernel
theorem dX4_read_39 : decode cX4_read 39 = .ok (.iload_n 2, 1) := by decide +kernel
theorem dX4_read_40 : decode cX4_read 40 = .ok (.iload 4, 2) := by decide +kernel
theorem dX4_read_42 : decode cX4_read 42 = .ok (.iload 5, 2) := by decide +kernel
theorem dX4_read_44 : decode cX4_read 44 = .ok (.invokestatic 23, 3) := by decide +kernel
theorem dX4_read_47 : decode cX4_read 47 = .ok (.goto 13, 3) := by decide +kernel
theorem dX4_read_50 : decode cX4_read 50 = .ok (.aload_n 0, 1) := by decide +kernel
theorem dX4_read_51 : decode cX4_read 51 = .ok (.aload_n 1, 1) := by decide +kernel
theorem dX4_read_52 : decode cX4_read 52 = .ok (.iload_n 2, 1) := by decide +kernel
theorem dX4_read_53 : decode cX4_read 53 = .ok (.iload 4, 2) := by decide +kernel
theorem dX4_read_55 : decode cX4_read 55 = .ok (.iload 5, 2) := by decide +kernel
theorem dX4_read_57 : decode cX4_read 57 = .ok (.invokevirtual 27, 3) := by decide +kernel
theorem dX4_read_60 : decode cX4_read 60 = .ok (.lastore, 1) := by decide +kernel
theorem dX4_read_61 : decode cX4_read 61 = .ok (.iinc 5 1, 3) := by decide +kernel
theorem dX4_read_64 : decode cX4_read 64 = .ok (.goto (-52), 3) := by decide +kernel
theorem dX4_read_67 : decode cX4_read 67 = .ok (.iinc 4 1, 3) := by decide +kernel
theorem dX4_read_70 : decode cX4_read 70 = .ok (.goto (-67), 3) := by decide +kernel
theorem dX4_read_73 : decode cX4_read 73 = .ok (.aload_n 0, 1) := by decide +kernel
theorem dX4_read_74 : decode cX4_read 74 = .ok (.iload_n 3, 1) := by decide +kernel
theorem dX4_read_75 : decode cX4_read 75 = .ok (.iconst 4, 1) := by decide +kernel
theorem dX4_read_76 : decode cX4_read 76 = .ok (.imul, 1) := by decide +kernel
theorem dX4_read_77 : decode cX4_read 77 = .ok (.putfield 30, 3) := by decide +kernel
theorem dX4_read_80 : decode cX4_read 80 = .ok (.return_, 1) := by decide +kernel
set_option maxRecDepth 20000 in
theorem ggX4_ofClause_X5_cell : GoodIn wsX4_ofClause wsX5_cell := goodIn_r _ [6, 7, 23, 24, 25, 26, 27] (by decide +kernel) (by decide +kernel)
set_option maxRecDepth 20000 in
theorem gX4_ofClause_X5_cell : GoodIn wsX4_ofClause (wsV RX4 33 RX5 yX5_cell wsX5_cell) := goodIn_app (goodIn_of _ (by decide +kernel)) ggX4_ofClause_X5_cell
set_option maxRecDepth 20000 in
theorem ggX4_ofClause_X5_sharedLetters : GoodIn wsX4_ofClause wsX5_sharedLetters := goodIn_r _ [11, 12, 13, 23, 24, 25, 26, 27] (by decide +kernel) (by decide +kernel)
set_option maxRecDepth 20000 in
theorem gX4_ofClause_X5_sharedLetters : GoodIn wsX4_ofClause (wsV RX4 39 RX5 yX5_sharedLetters wsX5_sharedLetters) := goodIn_app (goodIn_of _ (by decide +kernel)) ggX4_ofClause_X5_sharedLetters
set_option maxRecDepth 20000 in
theorem ggX4_ofClause_X8_whereClauseHolds : GoodIn wsX4_ofClause wsX8_whereClauseHolds := goodIn_r _ [17, 18, 19, 20, 16, 21, 22] (by decide +kernel) (by decide +kernel)
set_option maxRecDepth 20000 in
theorem gX4_ofClause_X8_whereClauseHolds : GoodIn wsX4_ofClause (va_wsS RX4 43 yX8_whereClauseHolds wsX8_whereClauseHolds) := goodIn_app (goodIn_of _ (by decide +kernel)) ggX4_ofClause_X8_whereClauseHolds
theorem dX4_ofClause_0 : decode cX4_ofClause 0 = .ok (.aload_n 0, 1) := by decide +kernel
theorem dX4_ofClause_1 : decode cX4_ofClause 1 = .ok (.iload_n 2, 1) := by decide +kernel
theorem dX4_ofClause_2 : decode cX4_ofClause 2 = .ok (.iconst 2, 1) := by decide +kernel
theorem dX4_ofClause_3 : decode cX4_ofClause 3 = .ok (.invokevirtual 33, 3) := by decide +kernel
theorem dX4_ofClause_6 : decode cX4_ofClause 6 = .ok (.ifCond .ne 7, 3) := by decide +kernel
theorem dX4_ofClause_9 : decode cX4_ofClause 9 = .ok (.iconst 1, 1) := by decide +kernel
theorem dX4_ofClause_10 : decode cX4_ofClause 10 = .ok (.goto 4, 3) := by decide +kernel
theorem dX4_ofClause_13 : decode cX4_ofClause 13 = .ok (.iconst 0, 1) := by decide +kernel
theorem dX4_ofClause_14 : decode cX4_ofClause 14 = .ok (.istore 4, 2) := by decide +kernel
theorem dX4_ofClause_16 : decode cX4_ofClause 16 = .ok (.iload 4, 2) := by decide +kernel
theorem dX4_ofClause_18 : decode cX4_ofClause 18 = .ok (.ifCond .eq 9, 3) := by decide +kernel
theorem dX4_ofClause_21 : decode cX4_ofClause 21 = .ok (.iload_n 1, 1) := by decide +kernel
theorem dX4_ofClause_22 : decode cX4_ofClause 22 = .ok (.ifCond .eq 5, 3) := by decide +kernel
theorem dX4_ofClause_25 : decode cX4_ofClause 25 = .ok (.lconst 0, 1) := by decide +kernel
theorem dX4_ofClause_26 : decode cX4_ofClause 26 = .ok (.lreturn, 1) := by decide +kernel
theorem dX4_ofClause_27 : decode cX4_ofClause 27 = .ok (.iload 4, 2) := by decide +kernel
theorem dX4_ofClause_29 : decode cX4_ofClause 29 = .ok (.ifCond .ne 12, 3) := by decide +kernel
theorem dX4_ofClause_32 : decode cX4_ofClause 32 = .ok (.iload_n 1, 1) := by decide +kernel
theorem dX4_ofClause_33 : decode cX4_ofClause 33 = .ok (.iconst 2, 1) := by decide +kernel
theorem dX4_ofClause_34 : decode cX4_ofClause 34 = .ok (.if_icmp .eq 7, 3) := by decide +kernel
theorem dX4_ofClause_37 : decode cX4_ofClause 37 = .ok (.ldc2_w 37, 3) := by decide +kernel
theorem dX4_ofClause_40 : decode cX4_ofClause 40 = .ok (.lreturn, 1) := by decide +kernel
theorem dX4_ofClause_41 : decode cX4_ofClause 41 = .ok (.aload_n 0, 1) := by decide +kernel
theorem dX4_ofClause_42 : decode cX4_ofClause 42 = .ok (.invokevirtual 39, 3) := by decide +kernel
theorem dX4_ofClause_45 : decode cX4_ofClause 45 = .ok (.istore 5, 2) := by decide +kernel
theorem dX4_ofClause_47 : decode cX4_ofClause 47 = .ok (.aload_n 0, 1) := by decide +kernel
theorem dX4_ofClause_48 : decode cX4_ofClause 48 = .ok (.iload_n 2, 1) := by decide +kernel
theorem dX4_ofClause_49 : decode cX4_ofClause 49 = .ok (.iconst 0, 1) := by decide +kernel
theorem dX4_ofClause_50 : decode cX4_ofClause 50 = .ok (.invokevirtual 33, 3) := by decide +kernel
theorem dX4_ofClause_53 : decode cX4_ofClause 53 = .ok (.iload 5, 2) := by decide +kernel
theorem dX4_ofClause_55 : decode cX4_ofClause 55 = .ok (.iand, 1) := by decide +kernel
theorem dX4_ofClause_56 : decode cX4_ofClause 56 = .ok (.aload_n 0, 1) := by decide +kernel
theorem dX4_ofClause_57 : decode cX4_ofClause 57 = .ok (.iload_n 2, 1) := by decide +kernel
theorem dX4_ofClause_58 : decode cX4_ofClause 58 = .ok (.iconst 1, 1) := by decide +kernel
theorem dX4_ofClause_59 : decode cX4_ofClause 59 = .ok (.invokevirtual 33, 3) := by decide +kernel
theorem dX4_ofClause_62 : decode cX4_ofClause 62 = .ok (.iload 5, 2) := by decide +kernel
theorem dX4_ofClause_64 : decode cX4_ofClause 64 = .ok (.iand, 1) := by decide +kernel
theorem dX4_ofClause_65 : decode cX4_ofClause 65 = .ok (.iload_n 3, 1) := by decide +kernel
theorem dX4_ofClause_66 : decode cX4_ofClause 66 = .ok (.invokestatic 43, 3) := by decide +kernel
theorem dX4_ofClause_69 : decode cX4_ofClause 69 = .ok (.lstore 6, 2) := by decide +kernel
theorem dX4_ofClause_71 : decode cX4_ofClause 71 = .ok (.iload 4, 2) := by decide +kernel
theorem dX4_ofClause_73 : decode cX4_ofClause 73 = .ok (.ifCond .eq 8, 3) := by decide +kernel
theorem dX4_ofClause_76 : decode cX4_ofClause 76 = .ok (.lload 6, 2) := by decide +kernel
theorem dX4_ofClause_78 : decode cX4_ofClause 78 = .ok (.goto 9, 3) := by decide +kernel
theorem dX4_ofClause_81 : decode cX4_ofClause 81 = .ok (.lload 6, 2) := by decide +kernel
theorem dX4_ofClause_83 : decode cX4_ofClause 83 = .ok (.ldc2_w 37, 3) := by decide +kernel
theorem dX4_ofClause_86 : decode cX4_ofClause 86 = .ok (.lxor, 1) := by decide +kernel
theorem dX4_ofClause_87 : decode cX4_ofClause 87 = .ok (.lreturn, 1) := by decide +kernel
set_option maxRecDepth 20000 in
theorem ggX4_ofStep_X5_cell : GoodIn wsX4_ofStep wsX5_cell := goodIn_r _ [7, 8, 23, 24, 25, 26, 27] (by decide +kernel) (by decide +kernel)
set_option maxRecDepth 20000 in
theorem gX4_ofStep_X5_cell : GoodIn wsX4_ofStep (wsV RX4 33 RX5 yX5_cell wsX5_cell) := goodIn_app (goodIn_of _ (by decide +kernel)) ggX4_ofStep_X5_cell
set_option maxRecDepth 20000 in
theorem ggX4_ofStep_X5_colourOf : GoodIn wsX4_ofStep wsX5_colourOf := goodIn_r _ [12, 13, 14, 23, 24, 25, 26, 27] (by decide +kernel) (by decide +kernel)
set_option maxRecDepth 20000 in
theorem gX4_ofStep_X5_colourOf : GoodIn wsX4_ofStep (wsV RX4 47 RX5 yX5_colourOf wsX5_colourOf) := goodIn_app (goodIn_of _ (by decide +kernel)) ggX4_ofStep_X5_colourOf
set_option maxRecDepth 20000 in
theorem ggX4_ofStep_X8_whereSo : GoodIn wsX4_ofStep wsX8_whereSo := goodIn_r _ [18, 19, 20] (by decide +kernel) (by decide +kernel)
set_option maxRecDepth 20000 in
theorem gX4_ofStep_X8_whereSo : GoodIn wsX4_ofStep (va_wsS RX4 51 yX8_whereSo wsX8_whereSo) := goodIn_app (goodIn_of _ (by decide +kernel)) ggX4_ofStep_X8_whereSo
theorem dX4_ofStep_0 : decode cX4_ofStep 0 = .ok (.aload_n 0, 1) := by decide +kernel
theorem dX4_ofStep_1 : decode cX4_ofStep 1 = .ok (.getfield 11, 3) := by decide +kernel
theorem dX4_ofStep_4 : decode cX4_ofStep 4 = .ok (.aload_n 1, 1) := by decide +kernel
theorem dX4_ofStep_5 : decode cX4_ofStep 5 = .ok (.iload_n 3, 1) := by decide +kernel
theorem dX4_ofStep_6 : decode cX4_ofStep 6 = .ok (.iconst 3, 1) := by decide +kernel
theorem dX4_ofStep_7 : decode cX4_ofStep 7 = .ok (.invokevirtual 33, 3) := by decide +kernel
theorem dX4_ofStep_10 : decode cX4_ofStep 10 = .ok (.iconst 4, 1) := by decide +kernel
theorem dX4_ofStep_11 : decode cX4_ofStep 11 = .ok (.imul, 1) := by decide +kernel
theorem dX4_ofStep_12 : decode cX4_ofStep 12 = .ok (.iload 4, 2) := by decide +kernel
theorem dX4_ofStep_14 : decode cX4_ofStep 14 = .ok (.iadd, 1) := by decide +kernel
theorem dX4_ofStep_15 : decode cX4_ofStep 15 = .ok (.laload, 1) := by decide +kernel
theorem dX4_ofStep_16 : decode cX4_ofStep 16 = .ok (.lstore 5, 2) := by decide +kernel
theorem dX4_ofStep_18 : decode cX4_ofStep 18 = .ok (.aload_n 0, 1) := by decide +kernel
theorem dX4_ofStep_19 : decode cX4_ofStep 19 = .ok (.getfield 11, 3) := by decide +kernel
theorem dX4_ofStep_22 : decode cX4_ofStep 22 = .ok (.aload_n 1, 1) := by decide +kernel
theorem dX4_ofStep_23 : decode cX4_ofStep 23 = .ok (.iload_n 3, 1) := by decide +kernel
theorem dX4_ofStep_24 : decode cX4_ofStep 24 = .ok (.iconst 4, 1) := by decide +kernel
theorem dX4_ofStep_25 : decode cX4_ofStep 25 = .ok (.invokevirtual 33, 3) := by decide +kernel
theorem dX4_ofStep_28 : decode cX4_ofStep 28 = .ok (.iconst 4, 1) := by decide +kernel
theorem dX4_ofStep_29 : decode cX4_ofStep 29 = .ok (.imul, 1) := by decide +kernel
theorem dX4_ofStep_30 : decode cX4_ofStep 30 = .ok (.iload 4, 2) := by decide +kernel
theorem dX4_ofStep_32 : decode cX4_ofStep 32 = .ok (.iadd, 1) := by decide +kernel
theorem dX4_ofStep_33 : decode cX4_ofStep 33 = .ok (.laload, 1) := by decide +kernel
theorem dX4_ofStep_34 : decode cX4_ofStep 34 = .ok (.lstore 7, 2) := by decide +kernel
theorem dX4_ofStep_36 : decode cX4_ofStep 36 = .ok (.aload_n 1, 1) := by decide +kernel
theorem dX4_ofStep_37 : decode cX4_ofStep 37 = .ok (.iload_n 3, 1) := by decide +kernel
theorem dX4_ofStep_38 : decode cX4_ofStep 38 = .ok (.iconst 5, 1) := by decide +kernel
theorem dX4_ofStep_39 : decode cX4_ofStep 39 = .ok (.invokevirtual 33, 3) := by decide +kernel
theorem dX4_ofStep_42 : decode cX4_ofStep 42 = .ok (.istore 9, 2) := by decide +kernel
theorem dX4_ofStep_44 : decode cX4_ofStep 44 = .ok (.aload_n 1, 1) := by decide +kernel
theorem dX4_ofStep_45 : decode cX4_ofStep 45 = .ok (.iload 9, 2) := by decide +kernel
theorem dX4_ofStep_47 : decode cX4_ofStep 47 = .ok (.invokevirtual 47, 3) := by decide +kernel
theorem dX4_ofStep_50 : decode cX4_ofStep 50 = .ok (.istore 10, 2) := by decide +kernel
theorem dX4_ofStep_52 : decode cX4_ofStep 52 = .ok (.iload_n 2, 1) := by decide +kernel
theorem dX4_ofStep_53 : decode cX4_ofStep 53 = .ok (.iconst 1, 1) := by decide +kernel
theorem dX4_ofStep_54 : decode cX4_ofStep 54 = .ok (.if_icmp .ne 34, 3) := by decide +kernel
theorem dX4_ofStep_57 : decode cX4_ofStep 57 = .ok (.iload 10, 2) := by decide +kernel
theorem dX4_ofStep_59 : decode cX4_ofStep 59 = .ok (.iconst 2, 1) := by decide +kernel
theorem dX4_ofStep_60 : decode cX4_ofStep 60 = .ok (.if_icmp .ne 28, 3) := by decide +kernel
theorem dX4_ofStep_63 : decode cX4_ofStep 63 = .ok (.iload 9, 2) := by decide +kernel
theorem dX4_ofStep_65 : decode cX4_ofStep 65 = .ok (.iload 4, 2) := by decide +kernel
theorem dX4_ofStep_67 : decode cX4_ofStep 67 = .ok (.invokestatic 51, 3) := by decide +kernel
theorem dX4_ofStep_70 : decode cX4_ofStep 70 = .ok (.lstore 11, 2) := by decide +kernel
theorem dX4_ofStep_72 : decode cX4_ofStep 72 = .ok (.lload 11, 2) := by decide +kernel
theorem dX4_ofStep_74 : decode cX4_ofStep 74 = .ok (.lload 7, 2) := by decide +kernel
theorem dX4_ofStep_76 : decode cX4_ofStep 76 = .ok (.land, 1) := by decide +kernel
theorem dX4_ofStep_77 : decode cX4_ofStep 77 = .ok (.lload 11, 2) := by decide +kernel
theorem dX4_ofStep_79 : decode cX4_ofStep 79 = .ok (.ldc2_w 37, 3) := by decide +kernel
theorem dX4_ofStep_82 : decode cX4_ofStep 82 = .ok (.lxor, 1) := by decide +kernel
theorem dX4_ofStep_83 : decode cX4_ofStep 83 = .ok (.lload 5, 2) := by decide +kernel
theorem dX4_ofStep_85 : decode cX4_ofStep 85 = .ok (.land, 1) := by decide +kernel
theorem dX4_ofStep_86 : decode cX4_ofStep 86 = .ok (.lor, 1) := by decide +kernel
theorem dX4_ofStep_87 : decode cX4_ofStep 87 = .ok (.lreturn, 1) := by decide +kernel
theorem dX4_ofStep_88 : decode cX4_ofStep 88 = .ok (.iload_n 2, 1) := by decide +kernel
theorem dX4_ofStep_89 : decode cX4_ofStep 89 = .ok (.iconst 2, 1) := by decide +kernel
theorem dX4_ofStep_90 : decode cX4_ofStep 90 = .ok (.if_icmp .ne 17, 3) := by decide +kernel
theorem dX4_ofStep_93 : decode cX4_ofStep 93 = .ok (.iload 10, 2) := by decide +kernel
theorem dX4_ofStep_95 : decode cX4_ofStep 95 = .ok (.iconst 1, 1) := by decide +kernel
theorem dX4_ofStep_96 : decode cX4_ofStep 96 = .ok (.if_icmp .eq 7, 3) := by decide +kernel
theorem dX4_ofStep_99 : decode cX4_ofStep 99 = .ok (.iconst 1, 1) := by decide +kernel
theorem dX4_ofStep_100 : decode cX4_ofStep 100 = .ok (.goto 17, 3) := by decide +kernel
theorem dX4_ofStep_103 : decode cX4_ofStep 103 = .ok (.iconst 0, 1) := by decide +kernel
theorem dX4_ofStep_104 : decode cX4_ofStep 104 = .ok (.goto 13, 3) := by decide +kernel
theorem dX4_ofStep_107 : decode cX4_ofStep 107 = .ok (.iload 10, 2) := by decide +kernel
theorem dX4_ofStep_109 : decode cX4_ofStep 109 = .ok (.ifCond .ne 7, 3) := by decide +kernel
theorem dX4_ofStep_112 : decode cX4_ofStep 112 = .ok (.iconst 1, 1) := by decide +kernel
theorem dX4_ofStep_113 : decode cX4_ofStep 113 = .ok (.goto 4, 3) := by decide +kernel
theorem dX4_ofStep_116 : decode cX4_ofStep 116 = .ok (.iconst 0, 1) := by decide +kernel
theorem dX4_ofStep_117 : decode cX4_ofStep 117 = .ok (.istore 11, 2) := by decide +kernel
theorem dX4_ofStep_119 : decode cX4_ofStep 119 = .ok (.iload 11, 2) := by decide +kernel
theorem dX4_ofStep_121 : decode cX4_ofStep 121 = .ok (.ifCond .eq 11, 3) := by decide +kernel
theorem dX4_ofStep_124 : decode cX4_ofStep 124 = .ok (.lload 5, 2) := by decide +kernel
theorem dX4_ofStep_126 : decode cX4_ofStep 126 = .ok (.lload 7, 2) := by decide +kernel
theorem dX4_ofStep_128 : decode cX4_ofStep 128 = .ok (.lor, 1) := by decide +kernel
theorem dX4_ofStep_129 : decode cX4_ofStep 129 = .ok (.goto 8, 3) := by decide +kernel
theorem dX4_ofStep_132 : decode cX4_ofStep 132 = .ok (.lload 5, 2) := by decide +kernel
theorem dX4_ofStep_134 : decode cX4_ofStep 134 = .ok (.lload 7, 2) := by decide +kernel
theorem dX4_ofStep_136 : decode cX4_ofStep 136 = .ok (.land, 1) := by decide +kernel
theorem dX4_ofStep_137 : decode cX4_ofStep 137 = .ok (.lreturn, 1) := by decide +kernel
theorem dX4_word_0 : decode cX4_word 0 = .ok (.aload_n 0, 1) := by decide +kernel
theorem dX4_word_1 : decode cX4_word 1 = .ok (.getfield 11, 3) := by decide +kernel
theorem dX4_word_4 : decode cX4_word 4 = .ok (.aload_n 0, 1) := by decide +kernel
theorem dX4_word_5 : decode cX4_word 5 = .ok (.getfield 30, 3) := by decide +kernel
theorem dX4_word_8 : decode cX4_word 8 = .ok (.iload_n 1, 1) := by decide +kernel
theorem dX4_word_9 : decode cX4_word 9 = .ok (.iadd, 1) := by decide +kernel
theorem dX4_word_10 : decode cX4_word 10 = .ok (.laload, 1) := by decide +kernel
theorem dX4_word_11 : decode cX4_word 11 = .ok (.lreturn, 1) := by decide +kernel
set_option maxRecDepth 20000 in
theorem ggX4_isSo_X4_word : GoodIn wsX4_isSo wsX4_word := goodIn_r _ [5, 6, 7, 8, 9] (by decide +kernel) (by decide +kernel)
set_option maxRecDepth 20000 in
theorem gX4_isSo_X4_word : GoodIn wsX4_isSo (wsV RX4 55 RX4 yX4_word wsX4_word) := goodIn_app (goodIn_of _ (by decide +kernel)) ggX4_isSo_X4_word
theorem dX4_isSo_0 : decode cX4_isSo 0 = .ok (.aload_n 0, 1) := by decide +kernel
theorem dX4_isSo_1 : decode cX4_isSo 1 = .ok (.iload_n 1, 1) := by decide +kernel
theorem dX4_isSo_2 : decode cX4_isSo 2 = .ok (.bipush 6, 2) := by decide +kernel
theorem dX4_isSo_4 : decode cX4_isSo 4 = .ok (.ishr, 1) := by decide +kernel
theorem dX4_isSo_5 : decode cX4_isSo 5 = .ok (.invokevirtual 55, 3) := by decide +kernel
theorem dX4_isSo_8 : decode cX4_isSo 8 = .ok (.iload_n 1, 1) := by decide +kernel
theorem dX4_isSo_9 : decode cX4_isSo 9 = .ok (.bipush 63, 2) := by decide +kernel
theorem dX4_isSo_11 : decode cX4_isSo 11 = .ok (.iand, 1) := by decide +kernel
theorem dX4_isSo_12 : decode cX4_isSo 12 = .ok (.lushr, 1) := by decide +kernel
theorem dX4_isSo_13 : decode cX4_isSo 13 = .ok (.lconst 1, 1) := by decide +kernel
theorem dX4_isSo_14 : decode cX4_isSo 14 = .ok (.land, 1) := by decide +kernel
theorem dX4_isSo_15 : decode cX4_isSo 15 = .ok (.lconst 1, 1) := by decide +kernel
theorem dX4_isSo_16 : decode cX4_isSo 16 = .ok (.lcmp, 1) := by decide +kernel
theorem dX4_isSo_17 : decode cX4_isSo 17 = .ok (.ifCond .ne 7, 3) := by decide +kernel
theorem dX4_isSo_20 : decode cX4_isSo 20 = .ok (.iconst 1, 1) := by decide +kernel
theorem dX4_isSo_21 : decode cX4_isSo 21 = .ok (.goto 4, 3) := by decide +kernel
theorem dX4_isSo_24 : decode cX4_isSo 24 = .ok (.iconst 0, 1) := by decide +kernel
theorem dX4_isSo_25 : decode cX4_isSo 25 = .ok (.ireturn, 1) := by decide +kernel
set_option maxRecDepth 20000 in
theorem ggX4_worldsSo_X4_word : GoodIn wsX4_worldsSo wsX4_word := goodIn_r _ [5, 6, 7, 15, 16] (by decide +kernel) (by decide +kernel)
set_option maxRecDepth 20000 in
theorem gX4_worldsSo_X4_word : GoodIn wsX4_worldsSo (wsV RX4 55 RX4 yX4_word wsX4_word) := goodIn_app (goodIn_of _ (by decide +kernel)) ggX4_worldsSo_X4_word
set_option maxRecDepth 20000 in
theorem ggX4_worldsSo_J13_bitCount_95d88 : GoodIn wsX4_worldsSo wsJ13_bitCount_95d88 := goodIn_r _ [11, 12, 13, 14] (by decide +kernel) (by decide +kernel)
set_option maxRecDepth 20000 in
theorem gX4_worldsSo_J13_bitCount_95d88 : GoodIn wsX4_worldsSo (va_wsS RX4 59 yJ13_bitCount_95d88 wsJ13_bitCount_95d88) := goodIn_app (goodIn_of _ (by decide +kernel)) ggX4_worldsSo_J13_bitCount_95d88
theorem dX4_worldsSo_0 : decode cX4_worldsSo 0 = .ok (.iconst 0, 1) := by decide +kernel
theorem dX4_worldsSo_1 : decode cX4_worldsSo 1 = .ok (.istore_n 1, 1) := by decide +kernel
theorem dX4_worldsSo_2 : decode cX4_worldsSo 2 = .ok (.iconst 0, 1) := by decide +kernel
theorem dX4_worldsSo_3 : decode cX4_worldsSo 3 = .ok (.istore_n 2, 1) := by decide +kernel
theorem dX4_worldsSo_4 : decode cX4_worldsSo 4 = .ok (.iload_n 2, 1) := by decide +kernel
theorem dX4_worldsSo_5 : decode cX4_worldsSo 5 = .ok (.iconst 4, 1) := by decide +kernel
theorem dX4_worldsSo_6 : decode cX4_worldsSo 6 = .ok (.if_icmp .ge 20, 3) := by decide +kernel
theorem dX4_worldsSo_9 : decode cX4_worldsSo 9 = .ok (.iload_n 1, 1) := by decide +kernel
theorem dX4_worldsSo_10 : decode cX4_worldsSo 10 = .ok (.aload_n 0, 1) := by decide +kernel
theorem dX4_worldsSo_11 : decode cX4_worldsSo 11 = .ok (.iload_n 2, 1) := by decide +kernel
theorem dX4_worldsSo_12 : decode cX4_worldsSo 12 = .ok (.invokevirtual 55, 3) := by decide +kernel
theorem dX4_worldsSo_15 : decode cX4_worldsSo 15 = .ok (.invokestatic 59, 3) := by decide +kernel
theorem dX4_worldsSo_18 : decode cX4_worldsSo 18 = .ok (.iadd, 1) := by decide +kernel
theorem dX4_worldsSo_19 : decode cX4_worldsSo 19 = .ok (.istore_n 1, 1) := by decide +kernel
theorem dX4_worldsSo_20 : decode cX4_worldsSo 20 = .ok (.iinc 2 1, 3) := by decide +kernel
theorem dX4_worldsSo_23 : decode cX4_worldsSo 23 = .ok (.goto (-19), 3) := by decide +kernel
theorem dX4_worldsSo_26 : decode cX4_worldsSo 26 = .ok (.iload_n 1, 1) := by decide +kernel
theorem dX4_worldsSo_27 : decode cX4_worldsSo 27 = .ok (.ireturn, 1) := by decide +kernel
set_option maxRecDepth 20000 in
theorem ggX4_isSoOnlyWhere_X4_word : GoodIn wsX4_isSoOnlyWhere wsX4_word := goodIn_r _ [6, 7, 8, 9, 10] (by decide +kernel) (by decide +kernel)
set_option maxRecDepth 20000 in
theorem gX4_isSoOnlyWhere_X4_word : GoodIn wsX4_isSoOnlyWhere (wsV RX4 55 RX4 yX4_word wsX4_word) := goodIn_app (goodIn_of _ (by decide +kernel)) ggX4_isSoOnlyWhere_X4_word
theorem dX4_isSoOnlyWhere_0 : decode cX4_isSoOnlyWhere 0 = .ok (.iconst 0, 1) := by decide +kernel
theorem dX4_isSoOnlyWhere_1 : decode cX4_isSoOnlyWhere 1 = .ok (.istore_n 2, 1) := by decide +kernel
theorem dX4_isSoOnlyWhere_2 : decode cX4_isSoOnlyWhere 2 = .ok (.iload_n 2, 1) := by decide +kernel
theorem dX4_isSoOnlyWhere_3 : decode cX4_isSoOnlyWhere 3 = .ok (.iconst 4, 1) := by decide +kernel
theorem dX4_isSoOnlyWhere_4 : decode cX4_isSoOnlyWhere 4 = .ok (.if_icmp .ge 31, 3) := by decide +kernel
theorem dX4_isSoOnlyWhere_7 : decode cX4_isSoOnlyWhere 7 = .ok (.aload_n 0, 1) := by decide +kernel
theorem dX4_isSoOnlyWhere_8 : decode cX4_isSoOnlyWhere 8 = .ok (.iload_n 2, 1) := by decide +kernel
theorem dX4_isSoOnlyWhere_9 : decode cX4_isSoOnlyWhere 9 = .ok (.invokevirtual 55, 3) := by decide +kernel
theorem dX4_isSoOnlyWhere_12 : decode cX4_isSoOnlyWhere 12 = .ok (.aload_n 1, 1) := by decide +kernel
theorem dX4_isSoOnlyWhere_13 : decode cX4_isSoOnlyWhere 13 = .ok (.iload_n 2, 1) := by decide +kernel
theorem dX4_isSoOnlyWhere_14 : decode cX4_isSoOnlyWhere 14 = .ok (.invokevirtual 55, 3) := by decide +kernel
theorem dX4_isSoOnlyWhere_17 : decode cX4_isSoOnlyWhere 17 = .ok (.ldc2_w 37, 3) := by decide +kernel
theorem dX4_isSoOnlyWhere_20 : decode cX4_isSoOnlyWhere 20 = .ok (.lxor, 1) := by decide +kernel
theorem dX4_isSoOnlyWhere_21 : decode cX4_isSoOnlyWhere 21 = .ok (.land, 1) := by decide +kernel
theorem dX4_isSoOnlyWhere_22 : decode cX4_isSoOnlyWhere 22 = .ok (.lconst 0, 1) := by decide +kernel
theorem dX4_isSoOnlyWhere_23 : decode cX4_isSoOnlyWhere 23 = .ok (.lcmp, 1) := by decide +kernel
theorem dX4_isSoOnlyWhere_24 : decode cX4_isSoOnlyWhere 24 = .ok (.ifCond .eq 5, 3) := by decide +kernel
theorem dX4_isSoOnlyWhere_27 : decode cX4_isSoOnlyWhere 27 = .ok (.iconst 0, 1) := by decide +kernel
theorem dX4_isSoOnlyWhere_28 : decode cX4_isSoOnlyWhere 28 = .ok (.ireturn, 1) := by decide +kernel
theorem dX4_isSoOnlyWhere_29 : decode cX4_isSoOnlyWhere 29 = .ok (.iinc 2 1, 3) := by decide +kernel
theorem dX4_isSoOnlyWhere_32 : decode cX4_isSoOnlyWhere 32 = .ok (.goto (-30), 3) := by decide +kernel
theorem dX4_isSoOnlyWhere_35 : decode cX4_isSoOnlyWhere 35 = .ok (.iconst 1, 1) := by decide +kernel
theorem dX4_isSoOnlyWhere_36 : decode cX4_isSoOnlyWhere 36 = .ok (.ireturn, 1) := by decide +kernel
set_option maxRecDepth 20000 in
theorem ggX4_speaksOf_X4_hangsOn : GoodIn wsX4_speaksOf wsX4_hangsOn := goodIn_r _ [5, 6, 7, 8, 9, 4, 10, 11, 12, 13, 14, 15, 16, 17, 18, 19, 20] (by decide +kernel) (by decide +kernel)
set_option maxRecDepth 20000 in
theorem gX4_speaksOf_X4_hangsOn : GoodIn wsX4_speaksOf (wsV RX4 65 RX4 yX4_hangsOn wsX4_hangsOn) := goodIn_app (goodIn_of _ (by decide +kernel)) ggX4_speaksOf_X4_hangsOn
theorem dX4_speaksOf_0 : decode cX4_speaksOf 0 = .ok (.iconst 0, 1) := by decide +kernel
theorem dX4_speaksOf_1 : decode cX4_speaksOf 1 = .ok (.istore_n 1, 1) := by decide +kernel
theorem dX4_speaksOf_2 : decode cX4_speaksOf 2 = .ok (.iconst 0, 1) := by decide +kernel
theorem dX4_speaksOf_3 : decode cX4_speaksOf 3 = .ok (.istore_n 2, 1) := by decide +kernel
theorem dX4_speaksOf_4 : decode cX4_speaksOf 4 = .ok (.iload_n 2, 1) := by decide +kernel
theorem dX4_speaksOf_5 : decode cX4_speaksOf 5 = .ok (.bipush 8, 2) := by decide +kernel
theorem dX4_speaksOf_7 : decode cX4_speaksOf 7 = .ok (.if_icmp .ge 37, 3) := by decide +kernel
theorem dX4_speaksOf_10 : decode cX4_speaksOf 10 = .ok (.iconst 0, 1) := by decide +kernel
theorem dX4_speaksOf_11 : decode cX4_speaksOf 11 = .ok (.istore_n 3, 1) := by decide +kernel
theorem dX4_speaksOf_12 : decode cX4_speaksOf 12 = .ok (.iload_n 3, 1) := by decide +kernel
theorem dX4_speaksOf_13 : decode cX4_speaksOf 13 = .ok (.iconst 4, 1) := by decide +kernel
theorem dX4_speaksOf_14 : decode cX4_speaksOf 14 = .ok (.if_icmp .ge 24, 3) := by decide +kernel
theorem dX4_speaksOf_17 : decode cX4_speaksOf 17 = .ok (.aload_n 0, 1) := by decide +kernel
theorem dX4_speaksOf_18 : decode cX4_speaksOf 18 = .ok (.iload_n 2, 1) := by decide +kernel
theorem dX4_speaksOf_19 : decode cX4_speaksOf 19 = .ok (.iload_n 3, 1) := by decide +kernel
theorem dX4_speaksOf_20 : decode cX4_speaksOf 20 = .ok (.invokevirtual 65, 3) := by decide +kernel
theorem dX4_speaksOf_23 : decode cX4_speaksOf 23 = .ok (.ifCond .eq 9, 3) := by decide +kernel
theorem dX4_speaksOf_26 : decode cX4_speaksOf 26 = .ok (.iload_n 1, 1) := by decide +kernel
theorem dX4_speaksOf_27 : decode cX4_speaksOf 27 = .ok (.iconst 1, 1) := by decide +kernel
theorem dX4_speaksOf_28 : decode cX4_speaksOf 28 = .ok (.iload_n 2, 1) := by decide +kernel
theorem dX4_speaksOf_29 : decode cX4_speaksOf 29 = .ok (.ishl, 1) := by decide +kernel
theorem dX4_speaksOf_30 : decode cX4_speaksOf 30 = .ok (.ior, 1) := by decide +kernel
theorem dX4_speaksOf_31 : decode cX4_speaksOf 31 = .ok (.istore_n 1, 1) := by decide +kernel
theorem dX4_speaksOf_32 : decode cX4_speaksOf 32 = .ok (.iinc 3 1, 3) := by decide +kernel
theorem dX4_speaksOf_35 : decode cX4_speaksOf 35 = .ok (.goto (-23), 3) := by decide +kernel
theorem dX4_speaksOf_38 : decode cX4_speaksOf 38 = .ok (.iinc 2 1, 3) := by decide +kernel
theorem dX4_speaksOf_41 : decode cX4_speaksOf 41 = .ok (.goto (-37), 3) := by decide +kernel
theorem dX4_speaksOf_44 : decode cX4_speaksOf 44 = .ok (.iload_n 1, 1) := by decide +kernel
theorem dX4_speaksOf_45 : decode cX4_speaksOf 45 = .ok (.ireturn, 1) := by decide +kernel
set_option maxRecDepth 20000 in
theorem ggX4_hangsOn_X4_word : GoodIn wsX4_hangsOn wsX4_word := goodIn_r _ [6, 7, 8, 15, 16] (by decide +kernel) (by decide +kernel)
set_option maxRecDepth 20000 in
theorem gX4_hangsOn_X4_word : GoodIn wsX4_hangsOn (wsV RX4 55 RX4 yX4_word wsX4_word) := goodIn_app (goodIn_of _ (by decide +kernel)) ggX4_hangsOn_X4_word
set_option maxRecDepth 20000 in
theorem ggX4_hangsOn_X8_whereSo : GoodIn wsX4_hangsOn wsX8_whereSo := goodIn_r _ [12, 13, 14] (by decide +kernel) (by decide +kernel)
set_option maxRecDepth 20000 in
theorem gX4_hangsOn_X8_whereSo : GoodIn wsX4_hangsOn (va_wsS RX4 51 yX8_whereSo wsX8_whereSo) := goodIn_app (goodIn_of _ (by decide +kernel)) ggX4_hangsOn_X8_whereSo
theorem dX4_hangsOn_0 : decode cX4_hangsOn 0 = .ok (.iload_n 1, 1) := by decide +kernel
theorem dX4_hangsOn_1 : decode cX4_hangsOn 1 = .ok (.bipush 6, 2) := by decide +kernel
theorem dX4_hangsOn_3 : decode cX4_hangsOn 3 = .ok (.if_icmp .lt 30, 3) := by decide +kernel
theorem dX4_hangsOn_6 : decode cX4_hangsOn 6 = .ok (.aload_n 0, 1) := by decide +kernel
theorem dX4_hangsOn_7 : decode cX4_hangsOn 7 = .ok (.iload_n 2, 1) := by decide +kernel
theorem dX4_hangsOn_8 : decode cX4_hangsOn 8 = .ok (.invokevirtual 55, 3) := by decide +kernel
theorem dX4_hangsOn_11 : decode cX4_hangsOn 11 = .ok (.aload_n 0, 1) := by decide +kernel
theorem dX4_hangsOn_12 : decode cX4_hangsOn 12 = .ok (.iload_n 2, 1) := by decide +kernel
theorem dX4_hangsOn_13 : decode cX4_hangsOn 13 = .ok (.iconst 1, 1) := by decide +kernel
theorem dX4_hangsOn_14 : decode cX4_hangsOn 14 = .ok (.iload_n 1, 1) := by decide +kernel
theorem dX4_hangsOn_15 : decode cX4_hangsOn 15 = .ok (.bipush 6, 2) := by decide +kernel
theorem dX4_hangsOn_17 : decode cX4_hangsOn 17 = .ok (.isub, 1) := by decide +kernel
theorem dX4_hangsOn_18 : decode cX4_hangsOn 18 = .ok (.ishl, 1) := by decide +kernel
theorem dX4_hangsOn_19 : decode cX4_hangsOn 19 = .ok (.ixor, 1) := by decide +kernel
theorem dX4_hangsOn_20 : decode cX4_hangsOn 20 = .ok (.invokevirtual 55, 3) := by decide +kernel
theorem dX4_hangsOn_23 : decode cX4_hangsOn 23 = .ok (.lcmp, 1) := by decide +kernel
theorem dX4_hangsOn_24 : decode cX4_hangsOn 24 = .ok (.ifCond .eq 7, 3) := by decide +kernel
theorem dX4_hangsOn_27 : decode cX4_hangsOn 27 = .ok (.iconst 1, 1) := by decide +kernel
theorem dX4_hangsOn_28 : decode cX4_hangsOn 28 = .ok (.goto 4, 3) := by decide +kernel
theorem dX4_hangsOn_31 : decode cX4_hangsOn 31 = .ok (.iconst 0, 1) := by decide +kernel
theorem dX4_hangsOn_32 : decode cX4_hangsOn 32 = .ok (.ireturn, 1) := by decide +kernel
theorem dX4_hangsOn_33 : decode cX4_hangsOn 33 = .ok (.aload_n 0, 1) := by decide +kernel
theorem dX4_hangsOn_34 : decode cX4_hangsOn 34 = .ok (.iload_n 2, 1) := by decide +kernel
theorem dX4_hangsOn_35 : decode cX4_hangsOn 35 = .ok (.invokevirtual 55, 3) := by decide +kernel
theorem dX4_hangsOn_38 : decode cX4_hangsOn 38 = .ok (.aload_n 0, 1) := by decide +kernel
theorem dX4_hangsOn_39 : decode cX4_hangsOn 39 = .ok (.iload_n 2, 1) := by decide +kernel
theorem dX4_hangsOn_40 : decode cX4_hangsOn 40 = .ok (.invokevirtual 55, 3) := by decide +kernel
theorem dX4_hangsOn_43 : decode cX4_hangsOn 43 = .ok (.iconst 1, 1) := by decide +kernel
theorem dX4_hangsOn_44 : decode cX4_hangsOn 44 = .ok (.iload_n 1, 1) := by decide +kernel
theorem dX4_hangsOn_45 : decode cX4_hangsOn 45 = .ok (.ishl, 1) := by decide +kernel
theorem dX4_hangsOn_46 : decode cX4_hangsOn 46 = .ok (.lushr, 1) := by decide +kernel
theorem dX4_hangsOn_47 : decode cX4_hangsOn 47 = .ok (.lxor, 1) := by decide +kernel
theorem dX4_hangsOn_48 : decode cX4_hangsOn 48 = .ok (.lstore_n 3, 1) := by decide +kernel
theorem dX4_hangsOn_49 : decode cX4_hangsOn 49 = .ok (.lload_n 3, 1) := by decide +kernel
theorem dX4_hangsOn_50 : decode cX4_hangsOn 50 = .ok (.iload_n 1, 1) := by decide +kernel
theorem dX4_hangsOn_51 : decode cX4_hangsOn 51 = .ok (.iload_n 2, 1) := by decide +kernel
theorem dX4_hangsOn_52 : decode cX4_hangsOn 52 = .ok (.invokestatic 51, 3) := by decide +kernel
theorem dX4_hangsOn_55 : decode cX4_hangsOn 55 = .ok (.ldc2_w 37, 3) := by decide +kernel
theorem dX4_hangsOn_58 : decode cX4_hangsOn 58 = .ok (.lxor, 1) := by decide +kernel
theorem dX4_hangsOn_59 : decode cX4_hangsOn 59 = .ok (.land, 1) := by decide +kernel
theorem dX4_hangsOn_60 : decode cX4_hangsOn 60 = .ok (.lconst 0, 1) := by decide +kernel
theorem dX4_hangsOn_61 : decode cX4_hangsOn 61 = .ok (.lcmp, 1) := by decide +kernel
theorem dX4_hangsOn_62 : decode cX4_hangsOn 62 = .ok (.ifCond .eq 7, 3) := by decide +kernel
theorem dX4_hangsOn_65 : decode cX4_hangsOn 65 = .ok (.iconst 1, 1) := by decide +kernel
theorem dX4_hangsOn_66 : decode cX4_hangsOn 66 = .ok (.goto 4, 3) := by decide +kernel
theorem dX4_hangsOn_69 : decode cX4_hangsOn 69 = .ok (.iconst 0, 1) := by decide +kernel
theorem dX4_hangsOn_70 : decode cX4_hangsOn 70 = .ok (.ireturn, 1) := by decide +kernel
theorem dX5_init_0 : decode cX5_init 0 = .ok (.aload_n 0, 1) := by decide +kernel
theorem dX5_init_1 : decode cX5_init 1 = .ok (.invokespecial 3, 3) := by decide +kernel
theorem dX5_init_4 : decode cX5_init 4 = .ok (.aload_n 0, 1) := by decide +kernel
theorem dX5_init_5 : decode cX5_init 5 = .ok (.sipush 320, 3) := by decide +kernel
theorem dX5_init_8 : decode cX5_init 8 = .ok (.newarray .int, 2) := by decide +kernel
theorem dX5_init_10 : decode cX5_init 10 = .ok (.putfield 11, 3) := by decide +kernel
theorem dX5_init_13 : decode cX5_init 13 = .ok (.return_, 1) := by decide +kernel
theorem dX5_has_0 : decode cX5_has 0 = .ok (.iload_n 1, 1) := by decide +kernel
theorem dX5_has_1 : decode cX5_has 1 = .ok (.ifCond .lt 15, 3) := by decide +kernel
theorem dX5_has_4 : decode cX5_has 4 = .ok (.iload_n 1, 1) := by decide +kernel
theorem dX5_has_5 : decode cX5_has 5 = .ok (.aload_n 0, 1) := by decide +kernel
theorem dX5_has_6 : decode cX5_has 6 = .ok (.getfield 15, 3) := by decide +kernel
theorem dX5_has_9 : decode cX5_has 9 = .ok (.if_icmp .ge 7, 3) := by decide +kernel
theorem dX5_has_12 : decode cX5_has 12 = .ok (.iconst 1, 1) := by decide +kernel
theorem dX5_has_13 : decode cX5_has 13 = .ok (.goto 4, 3) := by decide +kernel
theorem dX5_has_16 : decode cX5_has 16 = .ok (.iconst 0, 1) := by decide +kernel
theorem dX5_has_17 : decode cX5_has 17 = .ok (.ireturn, 1) := by decide +kernel
theorem dX5_cell_0 : decode cX5_cell 0 = .ok (.aload_n 0, 1) := by decide +kernel
theorem dX5_cell_1 : decode cX5_cell 1 = .ok (.getfield 11, 3) := by decide +kernel
theorem dX5_cell_4 : decode cX5_cell 4 = .ok (.iload_n 1, 1) := by decide +kernel
theorem dX5_cell_5 : decode cX5_cell 5 = .ok (.bipush 8, 2) := by decide +kernel
theorem dX5_cell_7 : decode cX5_cell 7 = .ok (.imul, 1) := by decide +kernel
theorem dX5_cell_8 : decode cX5_cell 8 = .ok (.iload_n 2, 1) := by decide +kernel
theorem dX5_cell_9 : decode cX5_cell 9 = .ok (.iadd, 1) := by decide +kernel
theorem dX5_cell_10 : decode cX5_cell 10 = .ok (.iaload, 1) := by decide +kernel
theorem dX5_cell_11 : decode cX5_cell 11 = .ok (.ireturn, 1) := by decide +kernel
theorem dX5_forgetAll_0 : decode cX5_forgetAll 0 = .ok (.aload_n 0, 1) := by decide +kernel
theorem dX5_forgetAll_1 : decode cX5_forgetAll 1 = .ok (.iconst 0, 1) := by decide +kernel
theorem dX5_forgetAll_2 : decode cX5_forgetAll 2 = .ok (.putfield 19, 3) := by decide +kernel
theorem dX5_forgetAll_5 : decode cX5_forgetAll 5 = .ok (.aload_n 0, 1) := by decide +kernel
theorem dX5_forgetAll_6 : decode cX5_forgetAll 6 = .ok (.iconst 0, 1) := by decide +kernel
theorem dX5_forgetAll_7 : decode cX5_forgetAll 7 = .ok (.putfield 15, 3) := by decide +kernel
theorem dX5_forgetAll_10 : decode cX5_forgetAll 10 = .ok (.aload_n 0, 1) := by decide +kernel
theorem dX5_forgetAll_11 : decode cX5_forgetAll 11 = .ok (.iconst 0, 1) := by decide +kernel
theorem dX5_forgetAll_12 : decode cX5_forgetAll 12 = .ok (.putfield 22, 3) := by decide +kernel
theorem dX5_forgetAll_15 : decode cX5_forgetAll 15 = .ok (.aload_n 0, 1) := by decide +kernel
theorem dX5_forgetAll_16 : decode cX5_forgetAll 16 = .ok (.iconst 0, 1) := by decide +kernel
theorem dX5_forgetAll_17 : decode cX5_forgetAll 17 = .ok (.putfield 25, 3) := by decide +kernel
theorem dX5_forgetAll_20 : decode cX5_forgetAll 20 = .ok (.return_, 1) := by decide +kernel
theorem dX5_copyFrom_0 : decode cX5_copyFrom 0 = .ok (.aload_n 1, 1) := by decide +kernel
theorem dX5_copyFrom_1 : decode cX5_copyFrom 1 = .ok (.getfield 11, 3) := by decide +kernel
theorem dX5_copyFrom_4 : decode cX5_copyFrom 4 = .ok (.iconst 0, 1) := by decide +kernel
theorem dX5_copyFrom_5 : decode cX5_copyFrom 5 = .ok (.aload_n 0, 1) := by decide +kernel
theorem dX5_copyFrom_6 : decode cX5_copyFrom 6 = .ok (.getfield 11, 3) := by decide +kernel
theorem dX5_copyFrom_9 : decode cX5_copyFrom 9 = .ok (.iconst 0, 1) := by decide +kernel
theorem dX5_copyFrom_10 : decode cX5_copyFrom 10 = .ok (.aload_n 1, 1) := by decide +kernel
theorem dX5_copyFrom_11 : decode cX5_copyFrom 11 = .ok (.getfield 15, 3) := by decide +kernel
theorem dX5_copyFrom_14 : decode cX5_copyFrom 14 = .ok (.bipush 8, 2) := by decide +kernel
theorem dX5_copyFrom_16 : decode cX5_copyFrom 16 = .ok (.imul, 1) := by decide +kernel
theorem dX5_copyFrom_17 : decode cX5_copyFrom 17 = .ok (.invokestatic 28, 3) := by decide +kernel
theorem dX5_copyFrom_20 : decode cX5_copyFrom 20 = .ok (.aload_n 0, 1) := by decide +kernel
theorem dX5_copyFrom_21 : decode cX5_copyFrom 21 = .ok (.aload_n 1, 1) := by decide +kernel
theorem dX5_copyFrom_22 : decode cX5_copyFrom 22 = .ok (.getfield 19, 3) := by decide +kernel
theorem dX5_copyFrom_25 : decode cX5_copyFrom 25 = .ok (.putfield 19, 3) := by decide +kernel
theorem dX5_copyFrom_28 : decode cX5_copyFrom 28 = .ok (.aload_n 0, 1) := by decide +kernel
theorem dX5_copyFrom_29 : decode cX5_copyFrom 29 = .ok (.aload_n 1, 1) := by decide +kernel
theorem dX5_copyFrom_30 : decode cX5_copyFrom 30 = .ok (.getfield 15, 3) := by decide +kernel
theorem dX5_copyFrom_33 : decode cX5_copyFrom 33 = .ok (.putfield 15, 3) := by decide +kernel
theorem dX5_copyFrom_36 : decode cX5_copyFrom 36 = .ok (.aload_n 0, 1) := by decide +kernel
theorem dX5_copyFrom_37 : decode cX5_copyFrom 37 = .ok (.aload_n 1, 1) := by decide +kernel
theorem dX5_copyFrom_38 : decode cX5_copyFrom 38 = .ok (.getfield 22, 3) := by decide +kernel
theorem dX5_copyFrom_41 : decode cX5_copyFrom 41 = .ok (.putfield 22, 3) := by decide +kernel
theorem dX5_copyFrom_44 : decode cX5_copyFrom 44 = .ok (.aload_n 0, 1) := by decide +kernel
theorem dX5_copyFrom_45 : decode cX5_copyFrom 45 = .ok (.aload_n 1, 1) := by decide +kernel
theorem dX5_copyFrom_46 : decode cX5_copyFrom 46 = .ok (.getfield 25, 3) := by decide +kernel
theorem dX5_copyFrom_49 : decode cX5_copyFrom 49 = .ok (.putfield 25, 3) := by decide +kernel
theorem dX5_copyFrom_52 : decode cX5_copyFrom 52 = .ok (.return_, 1) := by decide +kernel
theorem dX5_addClause_0 : decode cX5_addClause 0 = .ok (.aload_n 0, 1) := by decide +kernel
theorem dX5_addClause_1 : decode cX5_addClause 1 = .ok (.getfield 15, 3) := by decide +kernel
theorem dX5_addClause_4 : decode cX5_addClause 4 = .ok (.bipush 8, 2) := by decide +kernel
theorem dX5_addClause_6 : decode cX5_addClause 6 = .ok (.imul, 1) := by decide +kernel
theorem dX5_addClause_7 : decode cX5_addClause 7 = .ok (.istore 4, 2) := by decide +kernel
theorem dX5_addClause_9 : decode cX5_addClause 9 = .ok (.aload_n 0, 1) := by decide +kernel
theorem dX5_addClause_10 : decode cX5_addClause 10 = .ok (.getfield 11, 3) := by decide +kernel
theorem dX5_addClause_13 : decode cX5_addClause 13 = .ok (.iload 4, 2) := by decide +kernel
theorem dX5_addClause_15 : decode cX5_addClause 15 = .ok (.iconst 0, 1) := by decide +kernel
theorem dX5_addClause_16 : decode cX5_addClause 16 = .ok (.iadd, 1) := by decide +kernel
theorem dX5_addClause_17 : decode cX5_addClause 17 = .ok (.iload_n 2, 1) := by decide +kernel
theorem dX5_addClause_18 : decode cX5_addClause 18 = .ok (.iastore, 1) := by decide +kernel
theorem dX5_addClause_19 : decode cX5_addClause 19 = .ok (.aload_n 0, 1) := by decide +kernel
theorem dX5_addClause_20 : decode cX5_addClause 20 = .ok (.getfield 11, 3) := by decide +kernel
theorem dX5_addClause_23 : decode cX5_addClause 23 = .ok (.iload 4, 2) := by decide +kernel
theorem dX5_addClause_25 : decode cX5_addClause 25 = .ok (.iconst 1, 1) := by decide +kernel
theorem dX5_addClause_26 : decode cX5_addClause 26 = .ok (.iadd, 1) := by decide +kernel
theorem dX5_addClause_27 : decode cX5_addClause 27 = .ok (.iload_n 3, 1) := by decide +kernel
theorem dX5_addClause_28 : decode cX5_addClause 28 = .ok (.iastore, 1) := by decide +kernel
theorem dX5_addClause_29 : decode cX5_addClause 29 = .ok (.aload_n 0, 1) := by decide +kernel
theorem dX5_addClause_30 : decode cX5_addClause 30 = .ok (.getfield 11, 3) := by decide +kernel
theorem dX5_addClause_33 : decode cX5_addClause 33 = .ok (.iload 4, 2) := by decide +kernel
theorem dX5_addClause_35 : decode cX5_addClause 35 = .ok (.iconst 2, 1) := by decide +kernel
theorem dX5_addClause_36 : decode cX5_addClause 36 = .ok (.iadd, 1) := by decide +kernel
theorem dX5_addClause_37 : decode cX5_addClause 37 = .ok (.iload_n 1, 1) := by decide +kernel
theorem dX5_addClause_38 : decode cX5_addClause 38 = .ok (.iastore, 1) := by decide +kernel
theorem dX5_addClause_39 : decode cX5_addClause 39 = .ok (.aload_n 0, 1) := by decide +kernel
theorem dX5_addClause_40 : decode cX5_addClause 40 = .ok (.getfield 11, 3) := by decide +kernel
theorem dX5_addClause_43 : decode cX5_addClause 43 = .ok (.iload 4, 2) := by decide +kernel
theorem dX5_addClause_45 : decode cX5_addClause 45 = .ok (.iconst 3, 1) := by decide +kernel
theorem dX5_addClause_46 : decode cX5_addClause 46 = .ok (.iadd, 1) := by decide +kernel
theorem dX5_addClause_47 : decode cX5_addClause 47 = .ok (.iconst (-1), 1) := by decide +kernel
theorem dX5_addClause_48 : decode cX5_addClause 48 = .ok (.iastore, 1) := by decide +kernel
theorem dX5_addClause_49 : decode cX5_addClause 49 = .ok (.aload_n 0, 1) := by decide +kernel
theorem dX5_addClause_50 : decode cX5_addClause 50 = .ok (.getfield 11, 3) := by decide +kernel
theorem dX5_addClause_53 : decode cX5_addClause 53 = .ok (.iload 4, 2) := by decide +kernel
theorem dX5_addClause_55 : decode cX5_addClause 55 = .ok (.iconst 4, 1) := by decide +kernel
theorem dX5_addClause_56 : decode cX5_addClause 56 = .ok (.iadd, 1) := by decide +kernel
theorem dX5_addClause_57 : decode cX5_addClause 57 = .ok (.iconst (-1), 1) := by decide +kernel
theorem dX5_addClause_58 : decode cX5_addClause 58 = .ok (.iastore, 1) := by decide +kernel
theorem dX5_addClause_59 : decode cX5_addClause 59 = .ok (.aload_n 0, 1) := by decide +kernel
theorem dX5_addClause_60 : decode cX5_addClause 60 = .ok (.getfield 11, 3) := by decide +kernel
theorem dX5_addClause_63 : decode cX5_addClause 63 = .ok (.iload 4, 2) := by decide +kernel
theorem dX5_addClause_65 : decode cX5_addClause 65 = .ok (.iconst 5, 1) := by decide +kernel
theorem dX5_addClause_66 : decode cX5_addClause 66 = .ok (.iadd, 1) := by decide +kernel
theorem dX5_addClause_67 : decode cX5_addClause 67 = .ok (.iconst (-1), 1) := by decide +kernel
theorem dX5_addClause_68 : decode cX5_addClause 68 = .ok (.iastore, 1) := by decide +kernel
theorem dX5_addClause_69 : decode cX5_addClause 69 = .ok (.aload_n 0, 1) := by decide +kernel
theorem dX5_addClause_70 : decode cX5_addClause 70 = .ok (.getfield 11, 3) := by decide +kernel
theorem dX5_addClause_73 : decode cX5_addClause 73 = .ok (.iload 4, 2) := by decide +kernel
theorem dX5_addClause_75 : decode cX5_addClause 75 = .ok (.bipush 6, 2) := by decide +kernel
theorem dX5_addClause_77 : decode cX5_addClause 77 = .ok (.iadd, 1) := by decide +kernel
theorem dX5_addClause_78 : decode cX5_addClause 78 = .ok (.iconst 1, 1) := by decide +kernel
theorem dX5_addClause_79 : decode cX5_addClause 79 = .ok (.aload_n 0, 1) := by decide +kernel
theorem dX5_addClause_80 : decode cX5_addClause 80 = .ok (.getfield 15, 3) := by decide +kernel
theorem dX5_addClause_83 : decode cX5_addClause 83 = .ok (.ishl, 1) := by decide +kernel
theorem dX5_addClause_84 : decode cX5_addClause 84 = .ok (.iastore, 1) := by decide +kernel
theorem dX5_addClause_85 : decode cX5_addClause 85 = .ok (.aload_n 0, 1) := by decide +kernel
theorem dX5_addClause_86 : decode cX5_addClause 86 = .ok (.getfield 11, 3) := by decide +kernel
theorem dX5_addClause_89 : decode cX5_addClause 89 = .ok (.iload 4, 2) := by decide +kernel
theorem dX5_addClause_91 : decode cX5_addClause 91 = .ok (.bipush 7, 2) := by decide +kernel
theorem dX5_addClause_93 : decode cX5_addClause 93 = .ok (.iadd, 1) := by decide +kernel
theorem dX5_addClause_94 : decode cX5_addClause 94 = .ok (.iconst 1, 1) := by decide +kernel
theorem dX5_addClause_95 : decode cX5_addClause 95 = .ok (.iastore, 1) := by decide +kernel
theorem dX5_addClause_96 : decode cX5_addClause 96 = .ok (.iload_n 1, 1) := by decide +kernel
theorem dX5_addClause_97 : decode cX5_addClause 97 = .ok (.ifCond .ne 18, 3) := by decide +kernel
theorem dX5_addClause_100 : decode cX5_addClause 100 = .ok (.aload_n 0, 1) := by decide +kernel
theorem dX5_addClause_101 : decode cX5_addClause 101 = .ok (.dup, 1) := by decide +kernel
theorem dX5_addClause_102 : decode cX5_addClause 102 = .ok (.getfield 22, 3) := by decide +kernel
theorem dX5_addClause_105 : decode cX5_addClause 105 = .ok (.iload_n 2, 1) := by decide +kernel
theorem dX5_addClause_106 : decode cX5_addClause 106 = .ok (.iload_n 3, 1) := by decide +kernel
theorem dX5_addClause_107 : decode cX5_addClause 107 = .ok (.ior, 1) := by decide +kernel
theorem dX5_addClause_108 : decode cX5_addClause 108 = .ok (.ior, 1) := by decide +kernel
theorem dX5_addClause_109 : decode cX5_addClause 109 = .ok (.putfield 22, 3) := by decide +kernel
theorem dX5_addClause_112 : decode cX5_addClause 112 = .ok (.goto 15, 3) := by decide +kernel
theorem dX5_addClause_115 : decode cX5_addClause 115 = .ok (.aload_n 0, 1) := by decide +kernel
theorem dX5_addClause_116 : decode cX5_addClause 116 = .ok (.dup, 1) := by decide +kernel
theorem dX5_addClause_117 : decode cX5_addClause 117 = .ok (.getfield 25, 3) := by decide +kernel
theorem dX5_addClause_120 : decode cX5_addClause 120 = .ok (.iload_n 2, 1) := by decide +kernel
theorem dX5_addClause_121 : decode cX5_addClause 121 = .ok (.iload_n 3, 1) := by decide +kernel
theorem dX5_addClause_122 : decode cX5_addClause 122 = .ok (.ior, 1) := by decide +kernel
theorem dX5_addClause_123 : decode cX5_addClause 123 = .ok (.ior, 1) := by decide +kernel
theorem dX5_addClause_124 : decode cX5_addClause 124 = .ok (.putfield 25, 3) := by decide +kernel
theorem dX5_addClause_127 : decode cX5_addClause 127 = .ok (.aload_n 0, 1) := by decide +kernel
theorem dX5_addClause_128 : decode cX5_addClause 128 = .ok (.dup, 1) := by decide +kernel
theorem dX5_addClause_129 : decode cX5_addClause 129 = .ok (.getfield 19, 3) := by decide +kernel
theorem dX5_addClause_132 : decode cX5_addClause 132 = .ok (.iconst 1, 1) := by decide +kernel
theorem dX5_addClause_133 : decode cX5_addClause 133 = .ok (.iadd, 1) := by decide +kernel
theorem dX5_addClause_134 : decode cX5_addClause 134 = .ok (.putfield 19, 3) := by decide +kernel
theorem dX5_addClause_137 : decode cX5_addClause 137 = .ok (.aload_n 0, 1) := by decide +kernel
theorem dX5_addClause_138 : decode cX5_addClause 138 = .ok (.dup, 1) := by decide +kernel
theorem dX5_addClause_139 : decode cX5_addClause 139 = .ok (.getfield 15, 3) := by decide +kernel
theorem dX5_addClause_142 : decode cX5_addClause 142 = .ok (.iconst 1, 1) := by decide +kernel
theorem dX5_addClause_143 : decode cX5_addClause 143 = .ok (.iadd, 1) := by decide +kernel
theorem dX5_addClause_144 : decode cX5_addClause 144 = .ok (.putfield 15, 3) := by decide +kernel
theorem dX5_addClause_147 : decode cX5_addClause 147 = .ok (.return_, 1) := by decide +kernel
theorem dX5_noneMoreFits_0 : decode cX5_noneMoreFits 0 = .ok (.aload_n 0, 1) := by decide +kernel
theorem dX5_noneMoreFits_1 : decode cX5_noneMoreFits 1 = .ok (.getfield 15, 3) := by decide +kernel
theorem dX5_noneMoreFits_4 : decode cX5_noneMoreFits 4 = .ok (.aload_n 0, 1) := by decide +kernel
theorem dX5_noneMoreFits_5 : decode cX5_noneMoreFits 5 = .ok (.getfield 19, 3) := by decide +kernel
theorem dX5_noneMoreFits_8 : decode cX5_noneMoreFits 8 = .ok (.isub, 1) := by decide +kernel
theorem dX5_noneMoreFits_9 : decode cX5_noneMoreFits 9 = .ok (.bipush 30, 2) := by decide +kernel
theorem dX5_noneMoreFits_11 : decode cX5_noneMoreFits 11 = .ok (.if_icmp .lt 7, 3) := by decide +kernel
theorem dX5_noneMoreFits_14 : decode cX5_noneMoreFits 14 = .ok (.iconst 1, 1) := by decide +kernel
theorem dX5_noneMoreFits_15 : decode cX5_noneMoreFits 15 = .ok (.goto 4, 3) := by decide +kernel
theorem dX5_noneMoreFits_18 : decode cX5_noneMoreFits 18 = .ok (.iconst 0, 1) := by decide +kernel
theorem dX5_noneMoreFits_19 : decode cX5_noneMoreFits 19 = .ok (.ireturn, 1) := by decide +kernel
set_option maxRecDepth 20000 in
theorem ggX5_canMake_X5_cell : GoodIn wsX5_canMake wsX5_cell := goodIn_r _ [5, 6, 11, 12, 13, 14, 15] (by decide +kernel) (by decide +kernel)
set_option maxRecDepth 20000 in
theorem gX5_canMake_X5_cell : GoodIn wsX5_canMake (wsV RX5 34 RX5 yX5_cell wsX5_cell) := goodIn_app (goodIn_of _ (by decide +kernel)) ggX5_canMake_X5_cell
set_option maxRecDepth 20000 in
theorem ggX5_canMake_X5_joined : GoodIn wsX5_canMake wsX5_joined := goodIn_r _ [10, 1, 2, 3, 4, 5, 6, 11, 12, 13, 14, 15] (by decide +kernel) (by decide +kernel)
set_option maxRecDepth 20000 in
theorem gX5_canMake_X5_joined : GoodIn wsX5_canMake (wsV RX5 38 RX5 yX5_joined wsX5_joined) := goodIn_app (goodIn_of _ (by decide +kernel)) ggX5_canMake_X5_joined
theorem dX5_canMake_0 : decode cX5_canMake 0 = .ok (.iconst 1, 1) := by decide +kernel
theorem dX5_canMake_1 : decode cX5_canMake 1 = .ok (.iload_n 3, 1) := by decide +kernel
theorem dX5_canMake_2 : decode cX5_canMake 2 = .ok (.ishl, 1) := by decide +kernel
theorem dX5_canMake_3 : decode cX5_canMake 3 = .ok (.istore 4, 2) := by decide +kernel
theorem dX5_canMake_5 : decode cX5_canMake 5 = .ok (.aload_n 0, 1) := by decide +kernel
theorem dX5_canMake_6 : decode cX5_canMake 6 = .ok (.iload_n 1, 1) := by decide +kernel
theorem dX5_canMake_7 : decode cX5_canMake 7 = .ok (.iconst 0, 1) := by decide +kernel
theorem dX5_canMake_8 : decode cX5_canMake 8 = .ok (.invokevirtual 34, 3) := by decide +kernel
theorem dX5_canMake_11 : decode cX5_canMake 11 = .ok (.iload 4, 2) := by decide +kernel
theorem dX5_canMake_13 : decode cX5_canMake 13 = .ok (.iand, 1) := by decide +kernel
theorem dX5_canMake_14 : decode cX5_canMake 14 = .ok (.ifCond .eq 19, 3) := by decide +kernel
theorem dX5_canMake_17 : decode cX5_canMake 17 = .ok (.aload_n 0, 1) := by decide +kernel
theorem dX5_canMake_18 : decode cX5_canMake 18 = .ok (.iload_n 2, 1) := by decide +kernel
theorem dX5_canMake_19 : decode cX5_canMake 19 = .ok (.iconst 1, 1) := by decide +kernel
theorem dX5_canMake_20 : decode cX5_canMake 20 = .ok (.invokevirtual 34, 3) := by decide +kernel
theorem dX5_canMake_23 : decode cX5_canMake 23 = .ok (.iload 4, 2) := by decide +kernel
theorem dX5_canMake_25 : decode cX5_canMake 25 = .ok (.iand, 1) := by decide +kernel
theorem dX5_canMake_26 : decode cX5_canMake 26 = .ok (.ifCond .eq 7, 3) := by decide +kernel
theorem dX5_canMake_29 : decode cX5_canMake 29 = .ok (.iconst 1, 1) := by decide +kernel
theorem dX5_canMake_30 : decode cX5_canMake 30 = .ok (.goto 4, 3) := by decide +kernel
theorem dX5_canMake_33 : decode cX5_canMake 33 = .ok (.iconst 0, 1) := by decide +kernel
theorem dX5_canMake_34 : decode cX5_canMake 34 = .ok (.istore 5, 2) := by decide +kernel
theorem dX5_canMake_36 : decode cX5_canMake 36 = .ok (.iload 5, 2) := by decide +kernel
theorem dX5_canMake_38 : decode cX5_canMake 38 = .ok (.ifCond .eq 27, 3) := by decide +kernel
theorem dX5_canMake_41 : decode cX5_canMake 41 = .ok (.aload_n 0, 1) := by decide +kernel
theorem dX5_canMake_42 : decode cX5_canMake 42 = .ok (.iload_n 1, 1) := by decide +kernel
theorem dX5_canMake_43 : decode cX5_canMake 43 = .ok (.iload_n 2, 1) := by decide +kernel
theorem dX5_canMake_44 : decode cX5_canMake 44 = .ok (.iconst 0, 1) := by decide +kernel
theorem dX5_canMake_45 : decode cX5_canMake 45 = .ok (.iload_n 3, 1) := by decide +kernel
theorem dX5_canMake_46 : decode cX5_canMake 46 = .ok (.invokevirtual 38, 3) := by decide +kernel
theorem dX5_canMake_49 : decode cX5_canMake 49 = .ok (.aload_n 0, 1) := by decide +kernel
theorem dX5_canMake_50 : decode cX5_canMake 50 = .ok (.iload_n 1, 1) := by decide +kernel
theorem dX5_canMake_51 : decode cX5_canMake 51 = .ok (.iload_n 2, 1) := by decide +kernel
theorem dX5_canMake_52 : decode cX5_canMake 52 = .ok (.iconst 1, 1) := by decide +kernel
theorem dX5_canMake_53 : decode cX5_canMake 53 = .ok (.iload_n 3, 1) := by decide +kernel
theorem dX5_canMake_54 : decode cX5_canMake 54 = .ok (.invokevirtual 38, 3) := by decide +kernel
theorem dX5_canMake_57 : decode cX5_canMake 57 = .ok (.iand, 1) := by decide +kernel
theorem dX5_canMake_58 : decode cX5_canMake 58 = .ok (.ifCond .ne 7, 3) := by decide +kernel
theorem dX5_canMake_61 : decode cX5_canMake 61 = .ok (.iconst 1, 1) := by decide +kernel
theorem dX5_canMake_62 : decode cX5_canMake 62 = .ok (.goto 4, 3) := by decide +kernel
theorem dX5_canMake_65 : decode cX5_canMake 65 = .ok (.iconst 0, 1) := by decide +kernel
theorem dX5_canMake_66 : decode cX5_canMake 66 = .ok (.ireturn, 1) := by decide +kernel
set_option maxRecDepth 20000 in
theorem ggX5_joined_X5_cell : GoodIn wsX5_joined wsX5_cell := goodIn_r _ [5, 6, 7, 8, 9, 10, 11] (by decide +kernel) (by decide +kernel)
set_option maxRecDepth 20000 in
theorem gX5_joined_X5_cell : GoodIn wsX5_joined (wsV RX5 34 RX5 yX5_cell wsX5_cell) := goodIn_app (goodIn_of _ (by decide +kernel)) ggX5_joined_X5_cell
theorem dX5_joined_0 : decode cX5_joined 0 = .ok (.aload_n 0, 1) := by decide +kernel
theorem dX5_joined_1 : decode cX5_joined 1 = .ok (.iload_n 1, 1) := by decide +kernel
theorem dX5_joined_2 : decode cX5_joined 2 = .ok (.iload_n 3, 1) := by decide +kernel
theorem dX5_joined_3 : decode cX5_joined 3 = .ok (.invokevirtual 34, 3) := by decide +kernel
theorem dX5_joined_6 : decode cX5_joined 6 = .ok (.aload_n 0, 1) := by decide +kernel
theorem dX5_joined_7 : decode cX5_joined 7 = .ok (.iload_n 2, 1) := by decide +kernel
theorem dX5_joined_8 : decode cX5_joined 8 = .ok (.iload_n 3, 1) := by decide +kernel
theorem dX5_joined_9 : decode cX5_joined 9 = .ok (.invokevirtual 34, 3) := by decide +kernel
theorem dX5_joined_12 : decode cX5_joined 12 = .ok (.ior, 1) := by decide +kernel
theorem dX5_joined_13 : decode cX5_joined 13 = .ok (.iconst 1, 1) := by decide +kernel
theorem dX5_joined_14 : decode cX5_joined 14 = .ok (.iload 4, 2) := by decide +kernel
theorem dX5_joined_16 : decode cX5_joined 16 = .ok (.ishl, 1) := by decide +kernel
theorem dX5_joined_17 : decode cX5_joined 17 = .ok (.iconst (-1), 1) := by decide +kernel
theorem dX5_joined_18 : decode cX5_joined 18 = .ok (.ixor, 1) := by decide +kernel
theorem dX5_joined_19 : decode cX5_joined 19 = .ok (.iand, 1) := by decide +kernel
theorem dX5_joined_20 : decode cX5_joined 20 = .ok (.ireturn, 1) := by decide +kernel
set_option maxRecDepth 20000 in
theorem ggX5_make_X5_joined : GoodIn wsX5_make wsX5_joined := goodIn_r _ [11, 12, 13, 14, 10, 15, 2, 16, 17, 18, 19, 20] (by decide +kernel) (by decide +kernel)
set_option maxRecDepth 20000 in
theorem gX5_make_X5_joined : GoodIn wsX5_make (wsV RX5 38 RX5 yX5_joined wsX5_joined) := goodIn_app (goodIn_of _ (by decide +kernel)) ggX5_make_X5_joined
set_option maxRecDepth 20000 in
theorem ggX5_make_X5_cell : GoodIn wsX5_make wsX5_cell := goodIn_r _ [15, 2, 16, 17, 18, 19, 20] (by decide +kernel) (by decide +kernel)
set_option maxRecDepth 20000 in
theorem gX5_make_X5_cell : GoodIn wsX5_make (wsV RX5 34 RX5 yX5_cell wsX5_cell) := goodIn_app (goodIn_of _ (by decide +kernel)) ggX5_make_X5_cell
theorem dX5_make_0 : decode cX5_make 0 = .ok (.aload_n 0, 1) := by decide +kernel
theorem dX5_make_1 : decode cX5_make 1 = .ok (.getfield 15, 3) := by decide +kernel
theorem dX5_make_4 : decode cX5_make 4 = .ok (.istore 4, 2) := by decide +kernel
theorem dX5_make_6 : decode cX5_make 6 = .ok (.iload 4, 2) := by decide +kernel
theorem dX5_make_8 : decode cX5_make 8 = .ok (.bipush 8, 2) := by decide +kernel
theorem dX5_make_10 : decode cX5_make 10 = .ok (.imul, 1) := by decide +kernel
theorem dX5_make_11 : decode cX5_make 11 = .ok (.istore 5, 2) := by decide +kernel
theorem dX5_make_13 : decode cX5_make 13 = .ok (.aload_n 0, 1) := by decide +kernel
theorem dX5_make_14 : decode cX5_make 14 = .ok (.getfield 11, 3) := by decide +kernel
theorem dX5_make_17 : decode cX5_make 17 = .ok (.iload 5, 2) := by decide +kernel
theorem dX5_make_19 : decode cX5_make 19 = .ok (.iconst 0, 1) := by decide +kernel
theorem dX5_make_20 : decode cX5_make 20 = .ok (.iadd, 1) := by decide +kernel
theorem dX5_make_21 : decode cX5_make 21 = .ok (.aload_n 0, 1) := by decide +kernel
theorem dX5_make_22 : decode cX5_make 22 = .ok (.iload_n 1, 1) := by decide +kernel
theorem dX5_make_23 : decode cX5_make 23 = .ok (.iload_n 2, 1) := by decide +kernel
theorem dX5_make_24 : decode cX5_make 24 = .ok (.iconst 0, 1) := by decide +kernel
theorem dX5_make_25 : decode cX5_make 25 = .ok (.iload_n 3, 1) := by decide +kernel
theorem dX5_make_26 : decode cX5_make 26 = .ok (.invokevirtual 38, 3) := by decide +kernel
theorem dX5_make_29 : decode cX5_make 29 = .ok (.iastore, 1) := by decide +kernel
theorem dX5_make_30 : decode cX5_make 30 = .ok (.aload_n 0, 1) := by decide +kernel
theorem dX5_make_31 : decode cX5_make 31 = .ok (.getfield 11, 3) := by decide +kernel
theorem dX5_make_34 : decode cX5_make 34 = .ok (.iload 5, 2) := by decide +kernel
theorem dX5_make_36 : decode cX5_make 36 = .ok (.iconst 1, 1) := by decide +kernel
theorem dX5_make_37 : decode cX5_make 37 = .ok (.iadd, 1) := by decide +kernel
theorem dX5_make_38 : decode cX5_make 38 = .ok (.aload_n 0, 1) := by decide +kernel
theorem dX5_make_39 : decode cX5_make 39 = .ok (.iload_n 1, 1) := by decide +kernel
theorem dX5_make_40 : decode cX5_make 40 = .ok (.iload_n 2, 1) := by decide +kernel
theorem dX5_make_41 : decode cX5_make 41 = .ok (.iconst 1, 1) := by decide +kernel
theorem dX5_make_42 : decode cX5_make 42 = .ok (.iload_n 3, 1) := by decide +kernel
theorem dX5_make_43 : decode cX5_make 43 = .ok (.invokevirtual 38, 3) := by decide +kernel
theorem dX5_make_46 : decode cX5_make 46 = .ok (.iastore, 1) := by decide +kernel
theorem dX5_make_47 : decode cX5_make 47 = .ok (.aload_n 0, 1) := by decide +kernel
theorem dX5_make_48 : decode cX5_make 48 = .ok (.getfield 11, 3) := by decide +kernel
theorem dX5_make_51 : decode cX5_make 51 = .ok (.iload 5, 2) := by decide +kernel
theorem dX5_make_53 : decode cX5_make 53 = .ok (.iconst 2, 1) := by decide +kernel
theorem dX5_make_54 : decode cX5_make 54 = .ok (.iadd, 1) := by decide +kernel
theorem dX5_make_55 : decode cX5_make 55 = .ok (.iconst (-1), 1) := by decide +kernel
theorem dX5_make_56 : decode cX5_make 56 = .ok (.iastore, 1) := by decide +kernel
theorem dX5_make_57 : decode cX5_make 57 = .ok (.aload_n 0, 1) := by decide +kernel
theorem dX5_make_58 : decode cX5_make 58 = .ok (.getfield 11, 3) := by decide +kernel
theorem dX5_make_61 : decode cX5_make 61 = .ok (.iload 5, 2) := by decide +kernel
theorem dX5_make_63 : decode cX5_make 63 = .ok (.iconst 3, 1) := by decide +kernel
theorem dX5_make_64 : decode cX5_make 64 = .ok (.iadd, 1) := by decide +kernel
theorem dX5_make_65 : decode cX5_make 65 = .ok (.iload_n 1, 1) := by decide +kernel
theorem dX5_make_66 : decode cX5_make 66 = .ok (.iastore, 1) := by decide +kernel
theorem dX5_make_67 : decode cX5_make 67 = .ok (.aload_n 0, 1) := by decide +kernel
theorem dX5_make_68 : decode cX5_make 68 = .ok (.getfield 11, 3) := by decide +kernel
theorem dX5_make_71 : decode cX5_make 71 = .ok (.iload 5, 2) := by decide +kernel
theorem dX5_make_73 : decode cX5_make 73 = .ok (.iconst 4, 1) := by decide +kernel
theorem dX5_make_74 : decode cX5_make 74 = .ok (.iadd, 1) := by decide +kernel
theorem dX5_make_75 : decode cX5_make 75 = .ok (.iload_n 2, 1) := by decide +kernel
theorem dX5_make_76 : decode cX5_make 76 = .ok (.iastore, 1) := by decide +kernel
theorem dX5_make_77 : decode cX5_make 77 = .ok (.aload_n 0, 1) := by decide +kernel
theorem dX5_make_78 : decode cX5_make 78 = .ok (.getfield 11, 3) := by decide +kernel
theorem dX5_make_81 : decode cX5_make 81 = .ok (.iload 5, 2) := by decide +kernel
theorem dX5_make_83 : decode cX5_make 83 = .ok (.iconst 5, 1) := by decide +kernel
theorem dX5_make_84 : decode cX5_make 84 = .ok (.iadd, 1) := by decide +kernel
theorem dX5_make_85 : decode cX5_make 85 = .ok (.iload_n 3, 1) := by decide +kernel
theorem dX5_make_86 : decode cX5_make 86 = .ok (.iastore, 1) := by decide +kernel
theorem dX5_make_87 : decode cX5_make 87 = .ok (.aload_n 0, 1) := by decide +kernel
theorem dX5_make_88 : decode cX5_make 88 = .ok (.getfield 11, 3) := by decide +kernel
theorem dX5_make_91 : decode cX5_make 91 = .ok (.iload 5, 2) := by decide +kernel
theorem dX5_make_93 : decode cX5_make 93 = .ok (.bipush 6, 2) := by decide +kernel
theorem dX5_make_95 : decode cX5_make 95 = .ok (.iadd, 1) := by decide +kernel
theorem dX5_make_96 : decode cX5_make 96 = .ok (.aload_n 0, 1) := by decide +kernel
theorem dX5_make_97 : decode cX5_make 97 = .ok (.iload_n 1, 1) := by decide +kernel
theorem dX5_make_98 : decode cX5_make 98 = .ok (.bipush 6, 2) := by decide +kernel
theorem dX5_make_100 : decode cX5_make 100 = .ok (.invokevirtual 34, 3) := by decide +kernel
theorem dX5_make_103 : decode cX5_make 103 = .ok (.aload_n 0, 1) := by decide +kernel
theorem dX5_make_104 : decode cX5_make 104 = .ok (.iload_n 2, 1) := by decide +kernel
theorem dX5_make_105 : decode cX5_make 105 = .ok (.bipush 6, 2) := by decide +kernel
theorem dX5_make_107 : decode cX5_make 107 = .ok (.invokevirtual 34, 3) := by decide +kernel
theorem dX5_make_110 : decode cX5_make 110 = .ok (.ior, 1) := by decide +kernel
theorem dX5_make_111 : decode cX5_make 111 = .ok (.iastore, 1) := by decide +kernel
theorem dX5_make_112 : decode cX5_make 112 = .ok (.aload_n 0, 1) := by decide +kernel
theorem dX5_make_113 : decode cX5_make 113 = .ok (.getfield 11, 3) := by decide +kernel
theorem dX5_make_116 : decode cX5_make 116 = .ok (.iload 5, 2) := by decide +kernel
theorem dX5_make_118 : decode cX5_make 118 = .ok (.bipush 7, 2) := by decide +kernel
theorem dX5_make_120 : decode cX5_make 120 = .ok (.iadd, 1) := by decide +kernel
theorem dX5_make_121 : decode cX5_make 121 = .ok (.iconst 1, 1) := by decide +kernel
theorem dX5_make_122 : decode cX5_make 122 = .ok (.aload_n 0, 1) := by decide +kernel
theorem dX5_make_123 : decode cX5_make 123 = .ok (.iload_n 1, 1) := by decide +kernel
theorem dX5_make_124 : decode cX5_make 124 = .ok (.bipush 7, 2) := by decide +kernel
theorem dX5_make_126 : decode cX5_make 126 = .ok (.invokevirtual 34, 3) := by decide +kernel
theorem dX5_make_129 : decode cX5_make 129 = .ok (.aload_n 0, 1) := by decide +kernel
theorem dX5_make_130 : decode cX5_make 130 = .ok (.iload_n 2, 1) := by decide +kernel
theorem dX5_make_131 : decode cX5_make 131 = .ok (.bipush 7, 2) := by decide +kernel
theorem dX5_make_133 : decode cX5_make 133 = .ok (.invokevirtual 34, 3) := by decide +kernel
theorem dX5_make_136 : decode cX5_make 136 = .ok (.invokestatic 42, 3) := by decide +kernel
theorem dX5_make_139 : decode cX5_make 139 = .ok (.iadd, 1) := by decide +kernel
theorem dX5_make_140 : decode cX5_make 140 = .ok (.iastore, 1) := by decide +kernel
theorem dX5_make_141 : decode cX5_make 141 = .ok (.aload_n 0, 1) := by decide +kernel
theorem dX5_make_142 : decode cX5_make 142 = .ok (.dup, 1) := by decide +kernel
theorem dX5_make_143 : decode cX5_make 143 = .ok (.getfield 15, 3) := by decide +kernel
theorem dX5_make_146 : decode cX5_make 146 = .ok (.iconst 1, 1) := by decide +kernel
theorem dX5_make_147 : decode cX5_make 147 = .ok (.iadd, 1) := by decide +kernel
theorem dX5_make_148 : decode cX5_make 148 = .ok (.putfield 15, 3) := by decide +kernel
theorem dX5_make_151 : decode cX5_make 151 = .ok (.iload 4, 2) := by decide +kernel
theorem dX5_make_153 : decode cX5_make 153 = .ok (.ireturn, 1) := by decide +kernel
set_option maxRecDepth 20000 in
theorem ggX5_makeSought_X5_noneMoreFits : GoodIn wsX5_makeSought wsX5_noneMoreFits := goodIn_r _ [6, 1, 7, 49, 50, 51, 52, 53] (by decide +kernel) (by decide +kernel)
set_option maxRecDepth 20000 in
theorem gX5_makeSought_X5_noneMoreFits : GoodIn wsX5_makeSought (wsV RX5 47 RX5 yX5_noneMoreFits wsX5_noneMoreFits) := goodIn_app (goodIn_of _ (by decide +kernel)) ggX5_makeSought_X5_noneMoreFits
set_option maxRecDepth 20000 in
theorem ggX5_makeSought_X5_meeting : GoodIn wsX5_makeSought wsX5_meeting := goodIn_r _ [11, 12, 13, 14, 5, 15, 16, 49, 50, 51, 52, 53] (by decide +kernel) (by decide +kernel)
set_option maxRecDepth 20000 in
theorem gX5_makeSought_X5_meeting : GoodIn wsX5_makeSought (wsV RX5 51 RX5 yX5_meeting wsX5_meeting) := goodIn_app (goodIn_of _ (by decide +kernel)) ggX5_makeSought_X5_meeting
set_option maxRecDepth 20000 in
theorem ggX5_makeSought_X5_makeOfBoth : GoodIn wsX5_makeSought wsX5_makeOfBoth := goodIn_r _ [20, 21, 22, 23, 5, 24, 25, 26, 27, 28, 12, 13, 14, 15, 16, 29, 30, 31, 32, 33, 34, 35, 36, 1, 37, 38, 39, 40, 41, 42, 43, 44, 45, 46, 47, 48, 2, 3, 4, 6, 7, 49, 50, 51, 52, 53] (by decide +kernel) (by decide +kernel)
set_option maxRecDepth 20000 in
theorem gX5_makeSought_X5_makeOfBoth : GoodIn wsX5_makeSought (wsV RX5 54 RX5 yX5_makeOfBoth wsX5_makeOfBoth) := goodIn_app (goodIn_of _ (by decide +kernel)) ggX5_makeSought_X5_makeOfBoth
theorem dX5_makeSought_0 : decode cX5_makeSought 0 = .ok (.aload_n 0, 1) := by decide +kernel
theorem dX5_makeSought_1 : decode cX5_makeSought 1 = .ok (.invokevirtual 47, 3) := by decide +kernel
theorem dX5_makeSought_4 : decode cX5_makeSought 4 = .ok (.ifCond .eq 4, 3) := by decide +kernel
theorem dX5_makeSought_7 : decode cX5_makeSought 7 = .ok (.return_, 1) := by decide +kernel
theorem dX5_makeSought_8 : decode cX5_makeSought 8 = .ok (.iconst 1, 1) := by decide +kernel
theorem dX5_makeSought_9 : decode cX5_makeSought 9 = .ok (.istore_n 1, 1) := by decide +kernel
theorem dX5_makeSought_10 : decode cX5_makeSought 10 = .ok (.iload_n 1, 1) := by decide +kernel
theorem dX5_makeSought_11 : decode cX5_makeSought 11 = .ok (.bipush 40, 2) := by decide +kernel
theorem dX5_makeSought_13 : decode cX5_makeSought 13 = .ok (.if_icmp .ge 49, 3) := by decide +kernel
theorem dX5_makeSought_16 : decode cX5_makeSought 16 = .ok (.iload_n 1, 1) := by decide +kernel
theorem dX5_makeSought_17 : decode cX5_makeSought 17 = .ok (.aload_n 0, 1) := by decide +kernel
theorem dX5_makeSought_18 : decode cX5_makeSought 18 = .ok (.getfield 15, 3) := by decide +kernel
theorem dX5_makeSought_21 : decode cX5_makeSought 21 = .ok (.if_icmp .ge 41, 3) := by decide +kernel
theorem dX5_makeSought_24 : decode cX5_makeSought 24 = .ok (.iconst 0, 1) := by decide +kernel
theorem dX5_makeSought_25 : decode cX5_makeSought 25 = .ok (.istore_n 2, 1) := by decide +kernel
theorem dX5_makeSought_26 : decode cX5_makeSought 26 = .ok (.iload_n 2, 1) := by decide +kernel
theorem dX5_makeSought_27 : decode cX5_makeSought 27 = .ok (.iload_n 1, 1) := by decide +kernel
theorem dX5_makeSought_28 : decode cX5_makeSought 28 = .ok (.if_icmp .ge 28, 3) := by decide +kernel
theorem dX5_makeSought_31 : decode cX5_makeSought 31 = .ok (.aload_n 0, 1) := by decide +kernel
theorem dX5_makeSought_32 : decode cX5_makeSought 32 = .ok (.iload_n 2, 1) := by decide +kernel
theorem dX5_makeSought_33 : decode cX5_makeSought 33 = .ok (.iload_n 1, 1) := by decide +kernel
theorem dX5_makeSought_34 : decode cX5_makeSought 34 = .ok (.invokevirtual 51, 3) := by decide +kernel
theorem dX5_makeSought_37 : decode cX5_makeSought 37 = .ok (.ifCond .eq 13, 3) := by decide +kernel
theorem dX5_makeSought_40 : decode cX5_makeSought 40 = .ok (.aload_n 0, 1) := by decide +kernel
theorem dX5_makeSought_41 : decode cX5_makeSought 41 = .ok (.iload_n 2, 1) := by decide +kernel
theorem dX5_makeSought_42 : decode cX5_makeSought 42 = .ok (.iload_n 1, 1) := by decide +kernel
theorem dX5_makeSought_43 : decode cX5_makeSought 43 = .ok (.invokevirtual 54, 3) := by decide +kernel
theorem dX5_makeSought_46 : decode cX5_makeSought 46 = .ok (.ifCond .eq 4, 3) := by decide +kernel
theorem dX5_makeSought_49 : decode cX5_makeSought 49 = .ok (.return_, 1) := by decide +kernel
theorem dX5_makeSought_50 : decode cX5_makeSought 50 = .ok (.iinc 2 1, 3) := by decide +kernel
theorem dX5_makeSought_53 : decode cX5_makeSought 53 = .ok (.goto (-27), 3) := by decide +kernel
theorem dX5_makeSought_56 : decode cX5_makeSought 56 = .ok (.iinc 1 1, 3) := by decide +kernel
theorem dX5_makeSought_59 : decode cX5_makeSought 59 = .ok (.goto (-49), 3) := by decide +kernel
theorem dX5_makeSought_62 : decode cX5_makeSought 62 = .ok (.return_, 1) := by decide +kernel
set_option maxRecDepth 20000 in
theorem ggX5_meeting_X5_cell : GoodIn wsX5_meeting wsX5_cell := goodIn_r _ [5, 6, 7, 8, 9, 10, 11] (by decide +kernel) (by decide +kernel)
set_option maxRecDepth 20000 in
theorem gX5_meeting_X5_cell : GoodIn wsX5_meeting (wsV RX5 34 RX5 yX5_cell wsX5_cell) := goodIn_app (goodIn_of _ (by decide +kernel)) ggX5_meeting_X5_cell
theorem dX5_meeting_0 : decode cX5_meeting 0 = .ok (.aload_n 0, 1) := by decide +kernel
theorem dX5_meeting_1 : decode cX5_meeting 1 = .ok (.iload_n 1, 1) := by decide +kernel
theorem dX5_meeting_2 : decode cX5_meeting 2 = .ok (.iconst 0, 1) := by decide +kernel
theorem dX5_meeting_3 : decode cX5_meeting 3 = .ok (.invokevirtual 34, 3) := by decide +kernel
theorem dX5_meeting_6 : decode cX5_meeting 6 = .ok (.aload_n 0, 1) := by decide +kernel
theorem dX5_meeting_7 : decode cX5_meeting 7 = .ok (.iload_n 2, 1) := by decide +kernel
theorem dX5_meeting_8 : decode cX5_meeting 8 = .ok (.iconst 1, 1) := by decide +kernel
theorem dX5_meeting_9 : decode cX5_meeting 9 = .ok (.invokevirtual 34, 3) := by decide +kernel
theorem dX5_meeting_12 : decode cX5_meeting 12 = .ok (.iand, 1) := by decide +kernel
theorem dX5_meeting_13 : decode cX5_meeting 13 = .ok (.aload_n 0, 1) := by decide +kernel
theorem dX5_meeting_14 : decode cX5_meeting 14 = .ok (.iload_n 1, 1) := by decide +kernel
theorem dX5_meeting_15 : decode cX5_meeting 15 = .ok (.iconst 1, 1) := by decide +kernel
theorem dX5_meeting_16 : decode cX5_meeting 16 = .ok (.invokevirtual 34, 3) := by decide +kernel
theorem dX5_meeting_19 : decode cX5_meeting 19 = .ok (.aload_n 0, 1) := by decide +kernel
theorem dX5_meeting_20 : decode cX5_meeting 20 = .ok (.iload_n 2, 1) := by decide +kernel
theorem dX5_meeting_21 : decode cX5_meeting 21 = .ok (.iconst 0, 1) := by decide +kernel
theorem dX5_meeting_22 : decode cX5_meeting 22 = .ok (.invokevirtual 34, 3) := by decide +kernel
theorem dX5_meeting_25 : decode cX5_meeting 25 = .ok (.iand, 1) := by decide +kernel
theorem dX5_meeting_26 : decode cX5_meeting 26 = .ok (.ior, 1) := by decide +kernel
theorem dX5_meeting_27 : decode cX5_meeting 27 = .ok (.ireturn, 1) := by decide +kernel
set_option maxRecDepth 20000 in
theorem ggX5_makeOfBoth_X5_makeIfNew : GoodIn wsX5_makeOfBoth wsX5_makeIfNew := goodIn_r _ [5, 6, 7, 8, 4, 9, 10, 11, 12, 13, 14, 15, 16, 17, 18, 19, 20, 21, 22, 23, 24, 25, 26, 27, 28, 29, 30, 31, 32, 33, 34, 35, 36, 37, 38, 39, 40, 41, 42, 43, 44, 45] (by decide +kernel) (by decide +kernel)
set_option maxRecDepth 20000 in
theorem gX5_makeOfBoth_X5_makeIfNew : GoodIn wsX5_makeOfBoth (wsV RX5 58 RX5 yX5_makeIfNew wsX5_makeIfNew) := goodIn_app (goodIn_of _ (by decide +kernel)) ggX5_makeOfBoth_X5_makeIfNew
theorem dX5_makeOfBoth_0 : decode cX5_makeOfBoth 0 = .ok (.iconst 0, 1) := by decide +kernel
theorem dX5_makeOfBoth_1 : decode cX5_makeOfBoth 1 = .ok (.istore_n 3, 1) := by decide +kernel
theorem dX5_makeOfBoth_2 : decode cX5_makeOfBoth 2 = .ok (.iload_n 3, 1) := by decide +kernel
theorem dX5_makeOfBoth_3 : decode cX5_makeOfBoth 3 = .ok (.bipush 8, 2) := by decide +kernel
theorem dX5_makeOfBoth_5 : decode cX5_makeOfBoth 5 = .ok (.if_icmp .ge 31, 3) := by decide +kernel
theorem dX5_makeOfBoth_8 : decode cX5_makeOfBoth 8 = .ok (.aload_n 0, 1) := by decide +kernel
theorem dX5_makeOfBoth_9 : decode cX5_makeOfBoth 9 = .ok (.iload_n 1, 1) := by decide +kernel
theorem dX5_makeOfBoth_10 : decode cX5_makeOfBoth 10 = .ok (.iload_n 2, 1) := by decide +kernel
theorem dX5_makeOfBoth_11 : decode cX5_makeOfBoth 11 = .ok (.iload_n 3, 1) := by decide +kernel
theorem dX5_makeOfBoth_12 : decode cX5_makeOfBoth 12 = .ok (.invokevirtual 58, 3) := by decide +kernel
theorem dX5_makeOfBoth_15 : decode cX5_makeOfBoth 15 = .ok (.ifCond .ne 13, 3) := by decide +kernel
theorem dX5_makeOfBoth_18 : decode cX5_makeOfBoth 18 = .ok (.aload_n 0, 1) := by decide +kernel
theorem dX5_makeOfBoth_19 : decode cX5_makeOfBoth 19 = .ok (.iload_n 2, 1) := by decide +kernel
theorem dX5_makeOfBoth_20 : decode cX5_makeOfBoth 20 = .ok (.iload_n 1, 1) := by decide +kernel
theorem dX5_makeOfBoth_21 : decode cX5_makeOfBoth 21 = .ok (.iload_n 3, 1) := by decide +kernel
theorem dX5_makeOfBoth_22 : decode cX5_makeOfBoth 22 = .ok (.invokevirtual 58, 3) := by decide +kernel
theorem dX5_makeOfBoth_25 : decode cX5_makeOfBoth 25 = .ok (.ifCond .eq 5, 3) := by decide +kernel
theorem dX5_makeOfBoth_28 : decode cX5_makeOfBoth 28 = .ok (.iconst 1, 1) := by decide +kernel
theorem dX5_makeOfBoth_29 : decode cX5_makeOfBoth 29 = .ok (.ireturn, 1) := by decide +kernel
theorem dX5_makeOfBoth_30 : decode cX5_makeOfBoth 30 = .ok (.iinc 3 1, 3) := by decide +kernel
theorem dX5_makeOfBoth_33 : decode cX5_makeOfBoth 33 = .ok (.goto (-31), 3) := by decide +kernel
theorem dX5_makeOfBoth_36 : decode cX5_makeOfBoth 36 = .ok (.iconst 0, 1) := by decide +kernel
theorem dX5_makeOfBoth_37 : decode cX5_makeOfBoth 37 = .ok (.ireturn, 1) := by decide +kernel
set_option maxRecDepth 20000 in
theorem ggX5_makeIfNew_X5_canMake : GoodIn wsX5_makeIfNew wsX5_canMake := goodIn_r _ [5, 6, 7, 8, 4, 9, 10, 11, 12, 13, 14, 37, 38, 39, 40, 41] (by decide +kernel) (by decide +kernel)
set_option maxRecDepth 20000 in
theorem gX5_makeIfNew_X5_canMake : GoodIn wsX5_makeIfNew (wsV RX5 62 RX5 yX5_canMake wsX5_canMake) := goodIn_app (goodIn_of _ (by decide +kernel)) ggX5_makeIfNew_X5_canMake
set_option maxRecDepth 20000 in
theorem ggX5_makeIfNew_X5_joined : GoodIn wsX5_makeIfNew wsX5_joined := goodIn_r _ [14, 6, 7, 8, 4, 9, 10, 37, 38, 39, 40, 41] (by decide +kernel) (by decide +kernel)
set_option maxRecDepth 20000 in
theorem gX5_makeIfNew_X5_joined : GoodIn wsX5_makeIfNew (wsV RX5 38 RX5 yX5_joined wsX5_joined) := goodIn_app (goodIn_of _ (by decide +kernel)) ggX5_makeIfNew_X5_joined
set_option maxRecDepth 20000 in
theorem ggX5_makeIfNew_X5_isCovered : GoodIn wsX5_makeIfNew wsX5_isCovered := goodIn_r _ [18, 19, 6, 7, 8, 4, 9, 10, 37, 38, 39, 40, 41] (by decide +kernel) (by decide +kernel)
set_option maxRecDepth 20000 in
theorem gX5_makeIfNew_X5_isCovered : GoodIn wsX5_makeIfNew (wsV RX5 65 RX5 yX5_isCovered wsX5_isCovered) := goodIn_app (goodIn_of _ (by decide +kernel)) ggX5_makeIfNew_X5_isCovered
set_option maxRecDepth 20000 in
theorem ggX5_makeIfNew_X5_make : GoodIn wsX5_makeIfNew wsX5_make := goodIn_r _ [23, 19, 10, 24, 25, 26, 27, 11, 12, 13, 4, 14, 6, 7, 8, 9, 37, 38, 39, 40, 41] (by decide +kernel) (by decide +kernel)
set_option maxRecDepth 20000 in
theorem gX5_makeIfNew_X5_make : GoodIn wsX5_makeIfNew (wsV RX5 68 RX5 yX5_make wsX5_make) := goodIn_app (goodIn_of _ (by decide +kernel)) ggX5_makeIfNew_X5_make
set_option maxRecDepth 20000 in
theorem ggX5_makeIfNew_X5_isEmpty : GoodIn wsX5_makeIfNew wsX5_isEmpty := goodIn_r _ [31, 6, 7, 8, 4, 9, 10, 37, 38, 39, 40, 41] (by decide +kernel) (by decide +kernel)
set_option maxRecDepth 20000 in
theorem gX5_makeIfNew_X5_isEmpty : GoodIn wsX5_makeIfNew (wsV RX5 72 RX5 yX5_isEmpty wsX5_isEmpty) := goodIn_app (goodIn_of _ (by decide +kernel)) ggX5_makeIfNew_X5_isEmpty
set_option maxRecDepth 20000 in
theorem ggX5_makeIfNew_X5_noneMoreFits : GoodIn wsX5_makeIfNew wsX5_noneMoreFits := goodIn_r _ [35, 19, 36, 37, 38, 39, 40, 41] (by decide +kernel) (by decide +kernel)
set_option maxRecDepth 20000 in
theorem gX5_makeIfNew_X5_noneMoreFits : GoodIn wsX5_makeIfNew (wsV RX5 47 RX5 yX5_noneMoreFits wsX5_noneMoreFits) := goodIn_app (goodIn_of _ (by decide +kernel)) ggX5_makeIfNew_X5_noneMoreFits
theorem dX5_makeIfNew_0 : decode cX5_makeIfNew 0 = .ok (.aload_n 0, 1) := by decide +kernel
theorem dX5_makeIfNew_1 : decode cX5_makeIfNew 1 = .ok (.iload_n 1, 1) := by decide +kernel
theorem dX5_makeIfNew_2 : decode cX5_makeIfNew 2 = .ok (.iload_n 2, 1) := by decide +kernel
theorem dX5_makeIfNew_3 : decode cX5_makeIfNew 3 = .ok (.iload_n 3, 1) := by decide +kernel
theorem dX5_makeIfNew_4 : decode cX5_makeIfNew 4 = .ok (.invokevirtual 62, 3) := by decide +kernel
theorem dX5_makeIfNew_7 : decode cX5_makeIfNew 7 = .ok (.ifCond .eq 26, 3) := by decide +kernel
theorem dX5_makeIfNew_10 : decode cX5_makeIfNew 10 = .ok (.aload_n 0, 1) := by decide +kernel
theorem dX5_makeIfNew_11 : decode cX5_makeIfNew 11 = .ok (.aload_n 0, 1) := by decide +kernel
theorem dX5_makeIfNew_12 : decode cX5_makeIfNew 12 = .ok (.iload_n 1, 1) := by decide +kernel
theorem dX5_makeIfNew_13 : decode cX5_makeIfNew 13 = .ok (.iload_n 2, 1) := by decide +kernel
theorem dX5_makeIfNew_14 : decode cX5_makeIfNew 14 = .ok (.iconst 0, 1) := by decide +kernel
theorem dX5_makeIfNew_15 : decode cX5_makeIfNew 15 = .ok (.iload_n 3, 1) := by decide +kernel
theorem dX5_makeIfNew_16 : decode cX5_makeIfNew 16 = .ok (.invokevirtual 38, 3) := by decide +kernel
theorem dX5_makeIfNew_19 : decode cX5_makeIfNew 19 = .ok (.aload_n 0, 1) := by decide +kernel
theorem dX5_makeIfNew_20 : decode cX5_makeIfNew 20 = .ok (.iload_n 1, 1) := by decide +kernel
theorem dX5_makeIfNew_21 : decode cX5_makeIfNew 21 = .ok (.iload_n 2, 1) := by decide +kernel
theorem dX5_makeIfNew_22 : decode cX5_makeIfNew 22 = .ok (.iconst 1, 1) := by decide +kernel
theorem dX5_makeIfNew_23 : decode cX5_makeIfNew 23 = .ok (.iload_n 3, 1) := by decide +kernel
theorem dX5_makeIfNew_24 : decode cX5_makeIfNew 24 = .ok (.invokevirtual 38, 3) := by decide +kernel
theorem dX5_makeIfNew_27 : decode cX5_makeIfNew 27 = .ok (.invokevirtual 65, 3) := by decide +kernel
theorem dX5_makeIfNew_30 : decode cX5_makeIfNew 30 = .ok (.ifCond .eq 5, 3) := by decide +kernel
theorem dX5_makeIfNew_33 : decode cX5_makeIfNew 33 = .ok (.iconst 0, 1) := by decide +kernel
theorem dX5_makeIfNew_34 : decode cX5_makeIfNew 34 = .ok (.ireturn, 1) := by decide +kernel
theorem dX5_makeIfNew_35 : decode cX5_makeIfNew 35 = .ok (.aload_n 0, 1) := by decide +kernel
theorem dX5_makeIfNew_36 : decode cX5_makeIfNew 36 = .ok (.aload_n 0, 1) := by decide +kernel
theorem dX5_makeIfNew_37 : decode cX5_makeIfNew 37 = .ok (.iload_n 1, 1) := by decide +kernel
theorem dX5_makeIfNew_38 : decode cX5_makeIfNew 38 = .ok (.iload_n 2, 1) := by decide +kernel
theorem dX5_makeIfNew_39 : decode cX5_makeIfNew 39 = .ok (.iload_n 3, 1) := by decide +kernel
theorem dX5_makeIfNew_40 : decode cX5_makeIfNew 40 = .ok (.invokevirtual 68, 3) := by decide +kernel
theorem dX5_makeIfNew_43 : decode cX5_makeIfNew 43 = .ok (.invokevirtual 72, 3) := by decide +kernel
theorem dX5_makeIfNew_46 : decode cX5_makeIfNew 46 = .ok (.ifCond .ne 10, 3) := by decide +kernel
theorem dX5_makeIfNew_49 : decode cX5_makeIfNew 49 = .ok (.aload_n 0, 1) := by decide +kernel
theorem dX5_makeIfNew_50 : decode cX5_makeIfNew 50 = .ok (.invokevirtual 47, 3) := by decide +kernel
theorem dX5_makeIfNew_53 : decode cX5_makeIfNew 53 = .ok (.ifCond .eq 7, 3) := by decide +kernel
theorem dX5_makeIfNew_56 : decode cX5_makeIfNew 56 = .ok (.iconst 1, 1) := by decide +kernel
theorem dX5_makeIfNew_57 : decode cX5_makeIfNew 57 = .ok (.goto 4, 3) := by decide +kernel
theorem dX5_makeIfNew_60 : decode cX5_makeIfNew 60 = .ok (.iconst 0, 1) := by decide +kernel
theorem dX5_makeIfNew_61 : decode cX5_makeIfNew 61 = .ok (.ireturn, 1) := by decide +kernel
set_option maxRecDepth 20000 in
theorem ggX5_isCovered_X5_cell : GoodIn wsX5_isCovered wsX5_cell := goodIn_r _ [6, 7, 8, 9, 10, 11, 12] (by decide +kernel) (by decide +kernel)
set_option maxRecDepth 20000 in
theorem gX5_isCovered_X5_cell : GoodIn wsX5_isCovered (wsV RX5 34 RX5 yX5_cell wsX5_cell) := goodIn_app (goodIn_of _ (by decide +kernel)) ggX5_isCovered_X5_cell
theorem dX5_isCovered_0 : decode cX5_isCovered 0 = .ok (.iconst 0, 1) := by decide +kernel
theorem dX5_isCovered_1 : decode cX5_isCovered 1 = .ok (.istore_n 3, 1) := by decide +kernel
theorem dX5_isCovered_2 : decode cX5_isCovered 2 = .ok (.iload_n 3, 1) := by decide +kernel
theorem dX5_isCovered_3 : decode cX5_isCovered 3 = .ok (.aload_n 0, 1) := by decide +kernel
theorem dX5_isCovered_4 : decode cX5_isCovered 4 = .ok (.getfield 15, 3) := by decide +kernel
theorem dX5_isCovered_7 : decode cX5_isCovered 7 = .ok (.if_icmp .ge 37, 3) := by decide +kernel
theorem dX5_isCovered_10 : decode cX5_isCovered 10 = .ok (.aload_n 0, 1) := by decide +kernel
theorem dX5_isCovered_11 : decode cX5_isCovered 11 = .ok (.iload_n 3, 1) := by decide +kernel
theorem dX5_isCovered_12 : decode cX5_isCovered 12 = .ok (.iconst 0, 1) := by decide +kernel
theorem dX5_isCovered_13 : decode cX5_isCovered 13 = .ok (.invokevirtual 34, 3) := by decide +kernel
theorem dX5_isCovered_16 : decode cX5_isCovered 16 = .ok (.iload_n 1, 1) := by decide +kernel
theorem dX5_isCovered_17 : decode cX5_isCovered 17 = .ok (.iconst (-1), 1) := by decide +kernel
theorem dX5_isCovered_18 : decode cX5_isCovered 18 = .ok (.ixor, 1) := by decide +kernel
theorem dX5_isCovered_19 : decode cX5_isCovered 19 = .ok (.iand, 1) := by decide +kernel
theorem dX5_isCovered_20 : decode cX5_isCovered 20 = .ok (.ifCond .ne 18, 3) := by decide +kernel
theorem dX5_isCovered_23 : decode cX5_isCovered 23 = .ok (.aload_n 0, 1) := by decide +kernel
theorem dX5_isCovered_24 : decode cX5_isCovered 24 = .ok (.iload_n 3, 1) := by decide +kernel
theorem dX5_isCovered_25 : decode cX5_isCovered 25 = .ok (.iconst 1, 1) := by decide +kernel
theorem dX5_isCovered_26 : decode cX5_isCovered 26 = .ok (.invokevirtual 34, 3) := by decide +kernel
theorem dX5_isCovered_29 : decode cX5_isCovered 29 = .ok (.iload_n 2, 1) := by decide +kernel
theorem dX5_isCovered_30 : decode cX5_isCovered 30 = .ok (.iconst (-1), 1) := by decide +kernel
theorem dX5_isCovered_31 : decode cX5_isCovered 31 = .ok (.ixor, 1) := by decide +kernel
theorem dX5_isCovered_32 : decode cX5_isCovered 32 = .ok (.iand, 1) := by decide +kernel
theorem dX5_isCovered_33 : decode cX5_isCovered 33 = .ok (.ifCond .ne 5, 3) := by decide +kernel
theorem dX5_isCovered_36 : decode cX5_isCovered 36 = .ok (.iconst 1, 1) := by decide +kernel
theorem dX5_isCovered_37 : decode cX5_isCovered 37 = .ok (.ireturn, 1) := by decide +kernel
theorem dX5_isCovered_38 : decode cX5_isCovered 38 = .ok (.iinc 3 1, 3) := by decide +kernel
theorem dX5_isCovered_41 : decode cX5_isCovered 41 = .ok (.goto (-39), 3) := by decide +kernel
theorem dX5_isCovered_44 : decode cX5_isCovered 44 = .ok (.iconst 0, 1) := by decide +kernel
theorem dX5_isCovered_45 : decode cX5_isCovered 45 = .ok (.ireturn, 1) := by decide +kernel
set_option maxRecDepth 20000 in
theorem ggX5_isEmpty_X5_cell : GoodIn wsX5_isEmpty wsX5_cell := goodIn_r _ [5, 6, 7, 8, 9, 10, 11] (by decide +kernel) (by decide +kernel)
set_option maxRecDepth 20000 in
theorem gX5_isEmpty_X5_cell : GoodIn wsX5_isEmpty (wsV RX5 34 RX5 yX5_cell wsX5_cell) := goodIn_app (goodIn_of _ (by decide +kernel)) ggX5_isEmpty_X5_cell
theorem dX5_isEmpty_0 : decode cX5_isEmpty 0 = .ok (.aload_n 0, 1) := by decide +kernel
theorem dX5_isEmpty_1 : decode cX5_isEmpty 1 = .ok (.iload_n 1, 1) := by decide +kernel
theorem dX5_isEmpty_2 : decode cX5_isEmpty 2 = .ok (.iconst 0, 1) := by decide +kernel
theorem dX5_isEmpty_3 : decode cX5_isEmpty 3 = .ok (.invokevirtual 34, 3) := by decide +kernel
theorem dX5_isEmpty_6 : decode cX5_isEmpty 6 = .ok (.aload_n 0, 1) := by decide +kernel
theorem dX5_isEmpty_7 : decode cX5_isEmpty 7 = .ok (.iload_n 1, 1) := by decide +kernel
theorem dX5_isEmpty_8 : decode cX5_isEmpty 8 = .ok (.iconst 1, 1) := by decide +kernel
theorem dX5_isEmpty_9 : decode cX5_isEmpty 9 = .ok (.invokevirtual 34, 3) := by decide +kernel
theorem dX5_isEmpty_12 : decode cX5_isEmpty 12 = .ok (.ior, 1) := by decide +kernel
theorem dX5_isEmpty_13 : decode cX5_isEmpty 13 = .ok (.ifCond .ne 7, 3) := by decide +kernel
theorem dX5_isEmpty_16 : decode cX5_isEmpty 16 = .ok (.iconst 1, 1) := by decide +kernel
