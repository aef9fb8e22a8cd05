theorem dX5_isEmpty_17 : decode cX5_isEmpty 17 = .ok (.goto 4, 3) := by decide +kernel
theorem dX5_isEmpty_20 : decode cX5_isEmpty 20 = .ok (.iconst 0, 1) := by decide +kernel
theorem dX5_isEmpty_21 : decode cX5_isEmpty 21 = .ok (.ireturn, 1) := by decide +kernel
set_option maxRecDepth 20000 in
theorem ggX5_firstEmpty_X5_isEmpty : GoodIn wsX5_firstEmpty wsX5_isEmpty := goodIn_r _ [6, 7, 8, 9, 5, 10, 11, 12, 13, 14, 15, 16] (by decide +kernel) (by decide +kernel)
set_option maxRecDepth 20000 in
theorem gX5_firstEmpty_X5_isEmpty : GoodIn wsX5_firstEmpty (wsV RX5 72 RX5 yX5_isEmpty wsX5_isEmpty) := goodIn_app (goodIn_of _ (by decide +kernel)) ggX5_firstEmpty_X5_isEmpty
theorem dX5_firstEmpty_0 : decode cX5_firstEmpty 0 = .ok (.iconst 0, 1) := by decide +kernel
theorem dX5_firstEmpty_1 : decode cX5_firstEmpty 1 = .ok (.istore_n 1, 1) := by decide +kernel
theorem dX5_firstEmpty_2 : decode cX5_firstEmpty 2 = .ok (.iload_n 1, 1) := by decide +kernel
theorem dX5_firstEmpty_3 : decode cX5_firstEmpty 3 = .ok (.aload_n 0, 1) := by decide +kernel
theorem dX5_firstEmpty_4 : decode cX5_firstEmpty 4 = .ok (.getfield 15, 3) := by decide +kernel
theorem dX5_firstEmpty_7 : decode cX5_firstEmpty 7 = .ok (.if_icmp .ge 19, 3) := by decide +kernel
theorem dX5_firstEmpty_10 : decode cX5_firstEmpty 10 = .ok (.aload_n 0, 1) := by decide +kernel
theorem dX5_firstEmpty_11 : decode cX5_firstEmpty 11 = .ok (.iload_n 1, 1) := by decide +kernel
theorem dX5_firstEmpty_12 : decode cX5_firstEmpty 12 = .ok (.invokevirtual 72, 3) := by decide +kernel
theorem dX5_firstEmpty_15 : decode cX5_firstEmpty 15 = .ok (.ifCond .eq 5, 3) := by decide +kernel
theorem dX5_firstEmpty_18 : decode cX5_firstEmpty 18 = .ok (.iload_n 1, 1) := by decide +kernel
theorem dX5_firstEmpty_19 : decode cX5_firstEmpty 19 = .ok (.ireturn, 1) := by decide +kernel
theorem dX5_firstEmpty_20 : decode cX5_firstEmpty 20 = .ok (.iinc 1 1, 3) := by decide +kernel
theorem dX5_firstEmpty_23 : decode cX5_firstEmpty 23 = .ok (.goto (-21), 3) := by decide +kernel
theorem dX5_firstEmpty_26 : decode cX5_firstEmpty 26 = .ok (.iconst (-1), 1) := by decide +kernel
theorem dX5_firstEmpty_27 : decode cX5_firstEmpty 27 = .ok (.ireturn, 1) := by decide +kernel
theorem dX5_sharedLetters_0 : decode cX5_sharedLetters 0 = .ok (.aload_n 0, 1) := by decide +kernel
theorem dX5_sharedLetters_1 : decode cX5_sharedLetters 1 = .ok (.getfield 22, 3) := by decide +kernel
theorem dX5_sharedLetters_4 : decode cX5_sharedLetters 4 = .ok (.aload_n 0, 1) := by decide +kernel
theorem dX5_sharedLetters_5 : decode cX5_sharedLetters 5 = .ok (.getfield 25, 3) := by decide +kernel
theorem dX5_sharedLetters_8 : decode cX5_sharedLetters 8 = .ok (.iand, 1) := by decide +kernel
theorem dX5_sharedLetters_9 : decode cX5_sharedLetters 9 = .ok (.ireturn, 1) := by decide +kernel
theorem dX5_colourOf_0 : decode cX5_colourOf 0 = .ok (.aload_n 0, 1) := by decide +kernel
theorem dX5_colourOf_1 : decode cX5_colourOf 1 = .ok (.getfield 22, 3) := by decide +kernel
theorem dX5_colourOf_4 : decode cX5_colourOf 4 = .ok (.iload_n 1, 1) := by decide +kernel
theorem dX5_colourOf_5 : decode cX5_colourOf 5 = .ok (.ishr, 1) := by decide +kernel
theorem dX5_colourOf_6 : decode cX5_colourOf 6 = .ok (.iconst 1, 1) := by decide +kernel
theorem dX5_colourOf_7 : decode cX5_colourOf 7 = .ok (.iand, 1) := by decide +kernel
theorem dX5_colourOf_8 : decode cX5_colourOf 8 = .ok (.iconst 1, 1) := by decide +kernel
theorem dX5_colourOf_9 : decode cX5_colourOf 9 = .ok (.if_icmp .ne 7, 3) := by decide +kernel
theorem dX5_colourOf_12 : decode cX5_colourOf 12 = .ok (.iconst 1, 1) := by decide +kernel
theorem dX5_colourOf_13 : decode cX5_colourOf 13 = .ok (.goto 4, 3) := by decide +kernel
theorem dX5_colourOf_16 : decode cX5_colourOf 16 = .ok (.iconst 0, 1) := by decide +kernel
theorem dX5_colourOf_17 : decode cX5_colourOf 17 = .ok (.istore_n 2, 1) := by decide +kernel
theorem dX5_colourOf_18 : decode cX5_colourOf 18 = .ok (.aload_n 0, 1) := by decide +kernel
theorem dX5_colourOf_19 : decode cX5_colourOf 19 = .ok (.getfield 25, 3) := by decide +kernel
theorem dX5_colourOf_22 : decode cX5_colourOf 22 = .ok (.iload_n 1, 1) := by decide +kernel
theorem dX5_colourOf_23 : decode cX5_colourOf 23 = .ok (.ishr, 1) := by decide +kernel
theorem dX5_colourOf_24 : decode cX5_colourOf 24 = .ok (.iconst 1, 1) := by decide +kernel
theorem dX5_colourOf_25 : decode cX5_colourOf 25 = .ok (.iand, 1) := by decide +kernel
theorem dX5_colourOf_26 : decode cX5_colourOf 26 = .ok (.iconst 1, 1) := by decide +kernel
theorem dX5_colourOf_27 : decode cX5_colourOf 27 = .ok (.if_icmp .ne 7, 3) := by decide +kernel
theorem dX5_colourOf_30 : decode cX5_colourOf 30 = .ok (.iconst 1, 1) := by decide +kernel
theorem dX5_colourOf_31 : decode cX5_colourOf 31 = .ok (.goto 4, 3) := by decide +kernel
theorem dX5_colourOf_34 : decode cX5_colourOf 34 = .ok (.iconst 0, 1) := by decide +kernel
theorem dX5_colourOf_35 : decode cX5_colourOf 35 = .ok (.istore_n 3, 1) := by decide +kernel
theorem dX5_colourOf_36 : decode cX5_colourOf 36 = .ok (.iload_n 2, 1) := by decide +kernel
theorem dX5_colourOf_37 : decode cX5_colourOf 37 = .ok (.ifCond .eq 13, 3) := by decide +kernel
theorem dX5_colourOf_40 : decode cX5_colourOf 40 = .ok (.iload_n 3, 1) := by decide +kernel
theorem dX5_colourOf_41 : decode cX5_colourOf 41 = .ok (.ifCond .eq 7, 3) := by decide +kernel
theorem dX5_colourOf_44 : decode cX5_colourOf 44 = .ok (.iconst 2, 1) := by decide +kernel
theorem dX5_colourOf_45 : decode cX5_colourOf 45 = .ok (.goto 4, 3) := by decide +kernel
theorem dX5_colourOf_48 : decode cX5_colourOf 48 = .ok (.iconst 0, 1) := by decide +kernel
theorem dX5_colourOf_49 : decode cX5_colourOf 49 = .ok (.ireturn, 1) := by decide +kernel
theorem dX5_colourOf_50 : decode cX5_colourOf 50 = .ok (.iload_n 3, 1) := by decide +kernel
theorem dX5_colourOf_51 : decode cX5_colourOf 51 = .ok (.ifCond .eq 7, 3) := by decide +kernel
theorem dX5_colourOf_54 : decode cX5_colourOf 54 = .ok (.iconst 1, 1) := by decide +kernel
theorem dX5_colourOf_55 : decode cX5_colourOf 55 = .ok (.goto 4, 3) := by decide +kernel
theorem dX5_colourOf_58 : decode cX5_colourOf 58 = .ok (.iconst (-1), 1) := by decide +kernel
theorem dX5_colourOf_59 : decode cX5_colourOf 59 = .ok (.ireturn, 1) := by decide +kernel
set_option maxRecDepth 20000 in
theorem ggX5_madeButNotFor_X5_cell : GoodIn wsX5_madeButNotFor wsX5_cell := goodIn_r _ [7, 8, 9, 10, 11, 12, 13] (by decide +kernel) (by decide +kernel)
set_option maxRecDepth 20000 in
theorem gX5_madeButNotFor_X5_cell : GoodIn wsX5_madeButNotFor (wsV RX5 34 RX5 yX5_cell wsX5_cell) := goodIn_app (goodIn_of _ (by decide +kernel)) ggX5_madeButNotFor_X5_cell
theorem dX5_madeButNotFor_0 : decode cX5_madeButNotFor 0 = .ok (.lconst 1, 1) := by decide +kernel
theorem dX5_madeButNotFor_1 : decode cX5_madeButNotFor 1 = .ok (.iload_n 1, 1) := by decide +kernel
theorem dX5_madeButNotFor_2 : decode cX5_madeButNotFor 2 = .ok (.lshl, 1) := by decide +kernel
theorem dX5_madeButNotFor_3 : decode cX5_madeButNotFor 3 = .ok (.lstore_n 2, 1) := by decide +kernel
theorem dX5_madeButNotFor_4 : decode cX5_madeButNotFor 4 = .ok (.iconst 0, 1) := by decide +kernel
theorem dX5_madeButNotFor_5 : decode cX5_madeButNotFor 5 = .ok (.istore 4, 2) := by decide +kernel
theorem dX5_madeButNotFor_7 : decode cX5_madeButNotFor 7 = .ok (.iload_n 1, 1) := by decide +kernel
theorem dX5_madeButNotFor_8 : decode cX5_madeButNotFor 8 = .ok (.istore 5, 2) := by decide +kernel
theorem dX5_madeButNotFor_10 : decode cX5_madeButNotFor 10 = .ok (.iload 5, 2) := by decide +kernel
theorem dX5_madeButNotFor_12 : decode cX5_madeButNotFor 12 = .ok (.aload_n 0, 1) := by decide +kernel
theorem dX5_madeButNotFor_13 : decode cX5_madeButNotFor 13 = .ok (.getfield 19, 3) := by decide +kernel
theorem dX5_madeButNotFor_16 : decode cX5_madeButNotFor 16 = .ok (.if_icmp .lt 45, 3) := by decide +kernel
theorem dX5_madeButNotFor_19 : decode cX5_madeButNotFor 19 = .ok (.lload_n 2, 1) := by decide +kernel
theorem dX5_madeButNotFor_20 : decode cX5_madeButNotFor 20 = .ok (.iload 5, 2) := by decide +kernel
theorem dX5_madeButNotFor_22 : decode cX5_madeButNotFor 22 = .ok (.lshr, 1) := by decide +kernel
theorem dX5_madeButNotFor_23 : decode cX5_madeButNotFor 23 = .ok (.lconst 1, 1) := by decide +kernel
theorem dX5_madeButNotFor_24 : decode cX5_madeButNotFor 24 = .ok (.land, 1) := by decide +kernel
theorem dX5_madeButNotFor_25 : decode cX5_madeButNotFor 25 = .ok (.lconst 1, 1) := by decide +kernel
theorem dX5_madeButNotFor_26 : decode cX5_madeButNotFor 26 = .ok (.lcmp, 1) := by decide +kernel
theorem dX5_madeButNotFor_27 : decode cX5_madeButNotFor 27 = .ok (.ifCond .ne 28, 3) := by decide +kernel
theorem dX5_madeButNotFor_30 : decode cX5_madeButNotFor 30 = .ok (.lload_n 2, 1) := by decide +kernel
theorem dX5_madeButNotFor_31 : decode cX5_madeButNotFor 31 = .ok (.lconst 1, 1) := by decide +kernel
theorem dX5_madeButNotFor_32 : decode cX5_madeButNotFor 32 = .ok (.aload_n 0, 1) := by decide +kernel
theorem dX5_madeButNotFor_33 : decode cX5_madeButNotFor 33 = .ok (.iload 5, 2) := by decide +kernel
theorem dX5_madeButNotFor_35 : decode cX5_madeButNotFor 35 = .ok (.iconst 3, 1) := by decide +kernel
theorem dX5_madeButNotFor_36 : decode cX5_madeButNotFor 36 = .ok (.invokevirtual 34, 3) := by decide +kernel
theorem dX5_madeButNotFor_39 : decode cX5_madeButNotFor 39 = .ok (.lshl, 1) := by decide +kernel
theorem dX5_madeButNotFor_40 : decode cX5_madeButNotFor 40 = .ok (.lconst 1, 1) := by decide +kernel
theorem dX5_madeButNotFor_41 : decode cX5_madeButNotFor 41 = .ok (.aload_n 0, 1) := by decide +kernel
theorem dX5_madeButNotFor_42 : decode cX5_madeButNotFor 42 = .ok (.iload 5, 2) := by decide +kernel
theorem dX5_madeButNotFor_44 : decode cX5_madeButNotFor 44 = .ok (.iconst 4, 1) := by decide +kernel
theorem dX5_madeButNotFor_45 : decode cX5_madeButNotFor 45 = .ok (.invokevirtual 34, 3) := by decide +kernel
theorem dX5_madeButNotFor_48 : decode cX5_madeButNotFor 48 = .ok (.lshl, 1) := by decide +kernel
theorem dX5_madeButNotFor_49 : decode cX5_madeButNotFor 49 = .ok (.lor, 1) := by decide +kernel
theorem dX5_madeButNotFor_50 : decode cX5_madeButNotFor 50 = .ok (.lor, 1) := by decide +kernel
theorem dX5_madeButNotFor_51 : decode cX5_madeButNotFor 51 = .ok (.lstore_n 2, 1) := by decide +kernel
theorem dX5_madeButNotFor_52 : decode cX5_madeButNotFor 52 = .ok (.iinc 4 1, 3) := by decide +kernel
theorem dX5_madeButNotFor_55 : decode cX5_madeButNotFor 55 = .ok (.iinc 5 (-1), 3) := by decide +kernel
theorem dX5_madeButNotFor_58 : decode cX5_madeButNotFor 58 = .ok (.goto (-48), 3) := by decide +kernel
theorem dX5_madeButNotFor_61 : decode cX5_madeButNotFor 61 = .ok (.aload_n 0, 1) := by decide +kernel
theorem dX5_madeButNotFor_62 : decode cX5_madeButNotFor 62 = .ok (.getfield 15, 3) := by decide +kernel
theorem dX5_madeButNotFor_65 : decode cX5_madeButNotFor 65 = .ok (.aload_n 0, 1) := by decide +kernel
theorem dX5_madeButNotFor_66 : decode cX5_madeButNotFor 66 = .ok (.getfield 19, 3) := by decide +kernel
theorem dX5_madeButNotFor_69 : decode cX5_madeButNotFor 69 = .ok (.isub, 1) := by decide +kernel
theorem dX5_madeButNotFor_70 : decode cX5_madeButNotFor 70 = .ok (.iload 4, 2) := by decide +kernel
theorem dX5_madeButNotFor_72 : decode cX5_madeButNotFor 72 = .ok (.isub, 1) := by decide +kernel
theorem dX5_madeButNotFor_73 : decode cX5_madeButNotFor 73 = .ok (.ireturn, 1) := by decide +kernel
theorem dX6_init_0 : decode cX6_init 0 = .ok (.aload_n 0, 1) := by decide +kernel
theorem dX6_init_1 : decode cX6_init 1 = .ok (.invokespecial 3, 3) := by decide +kernel
theorem dX6_init_4 : decode cX6_init 4 = .ok (.aload_n 0, 1) := by decide +kernel
theorem dX6_init_5 : decode cX6_init 5 = .ok (.bipush 40, 2) := by decide +kernel
theorem dX6_init_7 : decode cX6_init 7 = .ok (.newarray .int, 2) := by decide +kernel
theorem dX6_init_9 : decode cX6_init 9 = .ok (.putfield 11, 3) := by decide +kernel
theorem dX6_init_12 : decode cX6_init 12 = .ok (.aload_n 0, 1) := by decide +kernel
theorem dX6_init_13 : decode cX6_init 13 = .ok (.bipush 8, 2) := by decide +kernel
theorem dX6_init_15 : decode cX6_init 15 = .ok (.newarray .int, 2) := by decide +kernel
theorem dX6_init_17 : decode cX6_init 17 = .ok (.putfield 15, 3) := by decide +kernel
theorem dX6_init_20 : decode cX6_init 20 = .ok (.aload_n 0, 1) := by decide +kernel
theorem dX6_init_21 : decode cX6_init 21 = .ok (.bipush 8, 2) := by decide +kernel
theorem dX6_init_23 : decode cX6_init 23 = .ok (.newarray .int, 2) := by decide +kernel
theorem dX6_init_25 : decode cX6_init 25 = .ok (.putfield 18, 3) := by decide +kernel
theorem dX6_init_28 : decode cX6_init 28 = .ok (.aload_n 0, 1) := by decide +kernel
theorem dX6_init_29 : decode cX6_init 29 = .ok (.bipush 6, 2) := by decide +kernel
theorem dX6_init_31 : decode cX6_init 31 = .ok (.newarray .int, 2) := by decide +kernel
theorem dX6_init_33 : decode cX6_init 33 = .ok (.putfield 21, 3) := by decide +kernel
theorem dX6_init_36 : decode cX6_init 36 = .ok (.aload_n 0, 1) := by decide +kernel
theorem dX6_init_37 : decode cX6_init 37 = .ok (.iconst 5, 1) := by decide +kernel
theorem dX6_init_38 : decode cX6_init 38 = .ok (.newarray .int, 2) := by decide +kernel
theorem dX6_init_40 : decode cX6_init 40 = .ok (.putfield 24, 3) := by decide +kernel
theorem dX6_init_43 : decode cX6_init 43 = .ok (.aload_n 0, 1) := by decide +kernel
theorem dX6_init_44 : decode cX6_init 44 = .ok (.bipush 35, 2) := by decide +kernel
theorem dX6_init_46 : decode cX6_init 46 = .ok (.newarray .int, 2) := by decide +kernel
theorem dX6_init_48 : decode cX6_init 48 = .ok (.putfield 27, 3) := by decide +kernel
theorem dX6_init_51 : decode cX6_init 51 = .ok (.aload_n 0, 1) := by decide +kernel
theorem dX6_init_52 : decode cX6_init 52 = .ok (.bipush 35, 2) := by decide +kernel
theorem dX6_init_54 : decode cX6_init 54 = .ok (.newarray .int, 2) := by decide +kernel
theorem dX6_init_56 : decode cX6_init 56 = .ok (.putfield 30, 3) := by decide +kernel
theorem dX6_init_59 : decode cX6_init 59 = .ok (.return_, 1) := by decide +kernel
theorem dX6_add_0 : decode cX6_add 0 = .ok (.aload_n 0, 1) := by decide +kernel
theorem dX6_add_1 : decode cX6_add 1 = .ok (.getfield 33, 3) := by decide +kernel
theorem dX6_add_4 : decode cX6_add 4 = .ok (.iconst 5, 1) := by decide +kernel
theorem dX6_add_5 : decode cX6_add 5 = .ok (.imul, 1) := by decide +kernel
theorem dX6_add_6 : decode cX6_add 6 = .ok (.istore 7, 2) := by decide +kernel
theorem dX6_add_8 : decode cX6_add 8 = .ok (.aload_n 0, 1) := by decide +kernel
theorem dX6_add_9 : decode cX6_add 9 = .ok (.getfield 11, 3) := by decide +kernel
theorem dX6_add_12 : decode cX6_add 12 = .ok (.iload 7, 2) := by decide +kernel
theorem dX6_add_14 : decode cX6_add 14 = .ok (.iload_n 2, 1) := by decide +kernel
theorem dX6_add_15 : decode cX6_add 15 = .ok (.iastore, 1) := by decide +kernel
theorem dX6_add_16 : decode cX6_add 16 = .ok (.aload_n 0, 1) := by decide +kernel
theorem dX6_add_17 : decode cX6_add 17 = .ok (.getfield 11, 3) := by decide +kernel
theorem dX6_add_20 : decode cX6_add 20 = .ok (.iload 7, 2) := by decide +kernel
theorem dX6_add_22 : decode cX6_add 22 = .ok (.iconst 1, 1) := by decide +kernel
theorem dX6_add_23 : decode cX6_add 23 = .ok (.iadd, 1) := by decide +kernel
theorem dX6_add_24 : decode cX6_add 24 = .ok (.iload_n 3, 1) := by decide +kernel
theorem dX6_add_25 : decode cX6_add 25 = .ok (.iastore, 1) := by decide +kernel
theorem dX6_add_26 : decode cX6_add 26 = .ok (.aload_n 0, 1) := by decide +kernel
theorem dX6_add_27 : decode cX6_add 27 = .ok (.getfield 11, 3) := by decide +kernel
theorem dX6_add_30 : decode cX6_add 30 = .ok (.iload 7, 2) := by decide +kernel
theorem dX6_add_32 : decode cX6_add 32 = .ok (.iconst 2, 1) := by decide +kernel
theorem dX6_add_33 : decode cX6_add 33 = .ok (.iadd, 1) := by decide +kernel
theorem dX6_add_34 : decode cX6_add 34 = .ok (.iload 4, 2) := by decide +kernel
theorem dX6_add_36 : decode cX6_add 36 = .ok (.iastore, 1) := by decide +kernel
theorem dX6_add_37 : decode cX6_add 37 = .ok (.aload_n 0, 1) := by decide +kernel
theorem dX6_add_38 : decode cX6_add 38 = .ok (.getfield 11, 3) := by decide +kernel
theorem dX6_add_41 : decode cX6_add 41 = .ok (.iload 7, 2) := by decide +kernel
theorem dX6_add_43 : decode cX6_add 43 = .ok (.iconst 3, 1) := by decide +kernel
theorem dX6_add_44 : decode cX6_add 44 = .ok (.iadd, 1) := by decide +kernel
theorem dX6_add_45 : decode cX6_add 45 = .ok (.iload 5, 2) := by decide +kernel
theorem dX6_add_47 : decode cX6_add 47 = .ok (.iastore, 1) := by decide +kernel
theorem dX6_add_48 : decode cX6_add 48 = .ok (.aload_n 0, 1) := by decide +kernel
theorem dX6_add_49 : decode cX6_add 49 = .ok (.getfield 11, 3) := by decide +kernel
theorem dX6_add_52 : decode cX6_add 52 = .ok (.iload 7, 2) := by decide +kernel
theorem dX6_add_54 : decode cX6_add 54 = .ok (.iconst 4, 1) := by decide +kernel
theorem dX6_add_55 : decode cX6_add 55 = .ok (.iadd, 1) := by decide +kernel
theorem dX6_add_56 : decode cX6_add 56 = .ok (.iload 6, 2) := by decide +kernel
theorem dX6_add_58 : decode cX6_add 58 = .ok (.iastore, 1) := by decide +kernel
theorem dX6_add_59 : decode cX6_add 59 = .ok (.aload_n 0, 1) := by decide +kernel
theorem dX6_add_60 : decode cX6_add 60 = .ok (.getfield 15, 3) := by decide +kernel
theorem dX6_add_63 : decode cX6_add 63 = .ok (.aload_n 0, 1) := by decide +kernel
theorem dX6_add_64 : decode cX6_add 64 = .ok (.getfield 33, 3) := by decide +kernel
theorem dX6_add_67 : decode cX6_add 67 = .ok (.iload_n 1, 1) := by decide +kernel
theorem dX6_add_68 : decode cX6_add 68 = .ok (.iastore, 1) := by decide +kernel
theorem dX6_add_69 : decode cX6_add 69 = .ok (.aload_n 0, 1) := by decide +kernel
theorem dX6_add_70 : decode cX6_add 70 = .ok (.getfield 18, 3) := by decide +kernel
theorem dX6_add_73 : decode cX6_add 73 = .ok (.aload_n 0, 1) := by decide +kernel
theorem dX6_add_74 : decode cX6_add 74 = .ok (.getfield 33, 3) := by decide +kernel
theorem dX6_add_77 : decode cX6_add 77 = .ok (.iconst 0, 1) := by decide +kernel
theorem dX6_add_78 : decode cX6_add 78 = .ok (.iastore, 1) := by decide +kernel
theorem dX6_add_79 : decode cX6_add 79 = .ok (.aload_n 0, 1) := by decide +kernel
theorem dX6_add_80 : decode cX6_add 80 = .ok (.dup, 1) := by decide +kernel
theorem dX6_add_81 : decode cX6_add 81 = .ok (.getfield 33, 3) := by decide +kernel
theorem dX6_add_84 : decode cX6_add 84 = .ok (.iconst 1, 1) := by decide +kernel
theorem dX6_add_85 : decode cX6_add 85 = .ok (.iadd, 1) := by decide +kernel
theorem dX6_add_86 : decode cX6_add 86 = .ok (.putfield 33, 3) := by decide +kernel
theorem dX6_add_89 : decode cX6_add 89 = .ok (.aload_n 0, 1) := by decide +kernel
theorem dX6_add_90 : decode cX6_add 90 = .ok (.getfield 33, 3) := by decide +kernel
theorem dX6_add_93 : decode cX6_add 93 = .ok (.iconst 1, 1) := by decide +kernel
theorem dX6_add_94 : decode cX6_add 94 = .ok (.isub, 1) := by decide +kernel
theorem dX6_add_95 : decode cX6_add 95 = .ok (.ireturn, 1) := by decide +kernel
theorem dX6_whole_0 : decode cX6_whole 0 = .ok (.iconst 0, 1) := by decide +kernel
theorem dX6_whole_1 : decode cX6_whole 1 = .ok (.istore_n 2, 1) := by decide +kernel
theorem dX6_whole_2 : decode cX6_whole 2 = .ok (.iconst 0, 1) := by decide +kernel
theorem dX6_whole_3 : decode cX6_whole 3 = .ok (.istore_n 3, 1) := by decide +kernel
theorem dX6_whole_4 : decode cX6_whole 4 = .ok (.iload_n 3, 1) := by decide +kernel
theorem dX6_whole_5 : decode cX6_whole 5 = .ok (.aload_n 0, 1) := by decide +kernel
theorem dX6_whole_6 : decode cX6_whole 6 = .ok (.getfield 33, 3) := by decide +kernel
theorem dX6_whole_9 : decode cX6_whole 9 = .ok (.if_icmp .ge 29, 3) := by decide +kernel
theorem dX6_whole_12 : decode cX6_whole 12 = .ok (.iload_n 2, 1) := by decide +kernel
theorem dX6_whole_13 : decode cX6_whole 13 = .ok (.aload_n 0, 1) := by decide +kernel
theorem dX6_whole_14 : decode cX6_whole 14 = .ok (.getfield 11, 3) := by decide +kernel
theorem dX6_whole_17 : decode cX6_whole 17 = .ok (.iload_n 3, 1) := by decide +kernel
theorem dX6_whole_18 : decode cX6_whole 18 = .ok (.iconst 5, 1) := by decide +kernel
theorem dX6_whole_19 : decode cX6_whole 19 = .ok (.imul, 1) := by decide +kernel
theorem dX6_whole_20 : decode cX6_whole 20 = .ok (.iload_n 1, 1) := by decide +kernel
theorem dX6_whole_21 : decode cX6_whole 21 = .ok (.iadd, 1) := by decide +kernel
theorem dX6_whole_22 : decode cX6_whole 22 = .ok (.iaload, 1) := by decide +kernel
theorem dX6_whole_23 : decode cX6_whole 23 = .ok (.aload_n 0, 1) := by decide +kernel
theorem dX6_whole_24 : decode cX6_whole 24 = .ok (.getfield 18, 3) := by decide +kernel
theorem dX6_whole_27 : decode cX6_whole 27 = .ok (.iload_n 3, 1) := by decide +kernel
theorem dX6_whole_28 : decode cX6_whole 28 = .ok (.iaload, 1) := by decide +kernel
theorem dX6_whole_29 : decode cX6_whole 29 = .ok (.imul, 1) := by decide +kernel
theorem dX6_whole_30 : decode cX6_whole 30 = .ok (.iadd, 1) := by decide +kernel
theorem dX6_whole_31 : decode cX6_whole 31 = .ok (.istore_n 2, 1) := by decide +kernel
theorem dX6_whole_32 : decode cX6_whole 32 = .ok (.iinc 3 1, 3) := by decide +kernel
theorem dX6_whole_35 : decode cX6_whole 35 = .ok (.goto (-31), 3) := by decide +kernel
theorem dX6_whole_38 : decode cX6_whole 38 = .ok (.iload_n 2, 1) := by decide +kernel
theorem dX6_whole_39 : decode cX6_whole 39 = .ok (.ireturn, 1) := by decide +kernel
theorem dX6_middle_0 : decode cX6_middle 0 = .ok (.iconst 0, 1) := by decide +kernel
theorem dX6_middle_1 : decode cX6_middle 1 = .ok (.istore_n 2, 1) := by decide +kernel
theorem dX6_middle_2 : decode cX6_middle 2 = .ok (.iconst 0, 1) := by decide +kernel
theorem dX6_middle_3 : decode cX6_middle 3 = .ok (.istore_n 3, 1) := by decide +kernel
theorem dX6_middle_4 : decode cX6_middle 4 = .ok (.iload_n 3, 1) := by decide +kernel
theorem dX6_middle_5 : decode cX6_middle 5 = .ok (.aload_n 0, 1) := by decide +kernel
theorem dX6_middle_6 : decode cX6_middle 6 = .ok (.getfield 33, 3) := by decide +kernel
theorem dX6_middle_9 : decode cX6_middle 9 = .ok (.if_icmp .ge 38, 3) := by decide +kernel
theorem dX6_middle_12 : decode cX6_middle 12 = .ok (.aload_n 0, 1) := by decide +kernel
theorem dX6_middle_13 : decode cX6_middle 13 = .ok (.getfield 15, 3) := by decide +kernel
theorem dX6_middle_16 : decode cX6_middle 16 = .ok (.iload_n 3, 1) := by decide +kernel
theorem dX6_middle_17 : decode cX6_middle 17 = .ok (.iaload, 1) := by decide +kernel
theorem dX6_middle_18 : decode cX6_middle 18 = .ok (.ifCond .ne 23, 3) := by decide +kernel
theorem dX6_middle_21 : decode cX6_middle 21 = .ok (.iload_n 2, 1) := by decide +kernel
theorem dX6_middle_22 : decode cX6_middle 22 = .ok (.aload_n 0, 1) := by decide +kernel
theorem dX6_middle_23 : decode cX6_middle 23 = .ok (.getfield 11, 3) := by decide +kernel
theorem dX6_middle_26 : decode cX6_middle 26 = .ok (.iload_n 3, 1) := by decide +kernel
theorem dX6_middle_27 : decode cX6_middle 27 = .ok (.iconst 5, 1) := by decide +kernel
theorem dX6_middle_28 : decode cX6_middle 28 = .ok (.imul, 1) := by decide +kernel
theorem dX6_middle_29 : decode cX6_middle 29 = .ok (.iload_n 1, 1) := by decide +kernel
theorem dX6_middle_30 : decode cX6_middle 30 = .ok (.iadd, 1) := by decide +kernel
theorem dX6_middle_31 : decode cX6_middle 31 = .ok (.iaload, 1) := by decide +kernel
theorem dX6_middle_32 : decode cX6_middle 32 = .ok (.aload_n 0, 1) := by decide +kernel
theorem dX6_middle_33 : decode cX6_middle 33 = .ok (.getfield 18, 3) := by decide +kernel
theorem dX6_middle_36 : decode cX6_middle 36 = .ok (.iload_n 3, 1) := by decide +kernel
theorem dX6_middle_37 : decode cX6_middle 37 = .ok (.iaload, 1) := by decide +kernel
theorem dX6_middle_38 : decode cX6_middle 38 = .ok (.imul, 1) := by decide +kernel
theorem dX6_middle_39 : decode cX6_middle 39 = .ok (.iadd, 1) := by decide +kernel
theorem dX6_middle_40 : decode cX6_middle 40 = .ok (.istore_n 2, 1) := by decide +kernel
theorem dX6_middle_41 : decode cX6_middle 41 = .ok (.iinc 3 1, 3) := by decide +kernel
theorem dX6_middle_44 : decode cX6_middle 44 = .ok (.goto (-40), 3) := by decide +kernel
theorem dX6_middle_47 : decode cX6_middle 47 = .ok (.iload_n 2, 1) := by decide +kernel
theorem dX6_middle_48 : decode cX6_middle 48 = .ok (.ireturn, 1) := by decide +kernel
set_option maxRecDepth 20000 in
theorem ggX6_refuted_X6_whole : GoodIn wsX6_refuted wsX6_whole := goodIn_r _ [5, 6, 7, 8, 9, 10, 11, 12, 13, 14, 15, 16] (by decide +kernel) (by decide +kernel)
set_option maxRecDepth 20000 in
theorem gX6_refuted_X6_whole : GoodIn wsX6_refuted (wsV RX6 37 RX6 yX6_whole wsX6_whole) := goodIn_app (goodIn_of _ (by decide +kernel)) ggX6_refuted_X6_whole
theorem dX6_refuted_0 : decode cX6_refuted 0 = .ok (.iconst 0, 1) := by decide +kernel
theorem dX6_refuted_1 : decode cX6_refuted 1 = .ok (.istore_n 1, 1) := by decide +kernel
theorem dX6_refuted_2 : decode cX6_refuted 2 = .ok (.iload_n 1, 1) := by decide +kernel
theorem dX6_refuted_3 : decode cX6_refuted 3 = .ok (.iconst 4, 1) := by decide +kernel
theorem dX6_refuted_4 : decode cX6_refuted 4 = .ok (.if_icmp .ge 19, 3) := by decide +kernel
theorem dX6_refuted_7 : decode cX6_refuted 7 = .ok (.aload_n 0, 1) := by decide +kernel
theorem dX6_refuted_8 : decode cX6_refuted 8 = .ok (.iload_n 1, 1) := by decide +kernel
theorem dX6_refuted_9 : decode cX6_refuted 9 = .ok (.invokevirtual 37, 3) := by decide +kernel
theorem dX6_refuted_12 : decode cX6_refuted 12 = .ok (.ifCond .eq 5, 3) := by decide +kernel
theorem dX6_refuted_15 : decode cX6_refuted 15 = .ok (.iconst 0, 1) := by decide +kernel
theorem dX6_refuted_16 : decode cX6_refuted 16 = .ok (.ireturn, 1) := by decide +kernel
theorem dX6_refuted_17 : decode cX6_refuted 17 = .ok (.iinc 1 1, 3) := by decide +kernel
theorem dX6_refuted_20 : decode cX6_refuted 20 = .ok (.goto (-18), 3) := by decide +kernel
theorem dX6_refuted_23 : decode cX6_refuted 23 = .ok (.aload_n 0, 1) := by decide +kernel
theorem dX6_refuted_24 : decode cX6_refuted 24 = .ok (.iconst 4, 1) := by decide +kernel
theorem dX6_refuted_25 : decode cX6_refuted 25 = .ok (.invokevirtual 37, 3) := by decide +kernel
theorem dX6_refuted_28 : decode cX6_refuted 28 = .ok (.ifCond .ge 7, 3) := by decide +kernel
theorem dX6_refuted_31 : decode cX6_refuted 31 = .ok (.iconst 1, 1) := by decide +kernel
theorem dX6_refuted_32 : decode cX6_refuted 32 = .ok (.goto 4, 3) := by decide +kernel
theorem dX6_refuted_35 : decode cX6_refuted 35 = .ok (.iconst 0, 1) := by decide +kernel
theorem dX6_refuted_36 : decode cX6_refuted 36 = .ok (.ireturn, 1) := by decide +kernel
theorem dX6_unknownsOf_0 : decode cX6_unknownsOf 0 = .ok (.iconst 0, 1) := by decide +kernel
theorem dX6_unknownsOf_1 : decode cX6_unknownsOf 1 = .ok (.istore_n 2, 1) := by decide +kernel
theorem dX6_unknownsOf_2 : decode cX6_unknownsOf 2 = .ok (.iconst 0, 1) := by decide +kernel
theorem dX6_unknownsOf_3 : decode cX6_unknownsOf 3 = .ok (.istore_n 3, 1) := by decide +kernel
theorem dX6_unknownsOf_4 : decode cX6_unknownsOf 4 = .ok (.iload_n 3, 1) := by decide +kernel
theorem dX6_unknownsOf_5 : decode cX6_unknownsOf 5 = .ok (.aload_n 0, 1) := by decide +kernel
theorem dX6_unknownsOf_6 : decode cX6_unknownsOf 6 = .ok (.getfield 33, 3) := by decide +kernel
theorem dX6_unknownsOf_9 : decode cX6_unknownsOf 9 = .ok (.if_icmp .ge 55, 3) := by decide +kernel
theorem dX6_unknownsOf_12 : decode cX6_unknownsOf 12 = .ok (.iconst 0, 1) := by decide +kernel
theorem dX6_unknownsOf_13 : decode cX6_unknownsOf 13 = .ok (.istore 4, 2) := by decide +kernel
theorem dX6_unknownsOf_15 : decode cX6_unknownsOf 15 = .ok (.iload 4, 2) := by decide +kernel
theorem dX6_unknownsOf_17 : decode cX6_unknownsOf 17 = .ok (.iconst 4, 1) := by decide +kernel
theorem dX6_unknownsOf_18 : decode cX6_unknownsOf 18 = .ok (.if_icmp .ge 40, 3) := by decide +kernel
theorem dX6_unknownsOf_21 : decode cX6_unknownsOf 21 = .ok (.aload_n 0, 1) := by decide +kernel
theorem dX6_unknownsOf_22 : decode cX6_unknownsOf 22 = .ok (.getfield 15, 3) := by decide +kernel
theorem dX6_unknownsOf_25 : decode cX6_unknownsOf 25 = .ok (.iload_n 3, 1) := by decide +kernel
theorem dX6_unknownsOf_26 : decode cX6_unknownsOf 26 = .ok (.iaload, 1) := by decide +kernel
theorem dX6_unknownsOf_27 : decode cX6_unknownsOf 27 = .ok (.iload_n 1, 1) := by decide +kernel
theorem dX6_unknownsOf_28 : decode cX6_unknownsOf 28 = .ok (.if_icmp .ne 24, 3) := by decide +kernel
theorem dX6_unknownsOf_31 : decode cX6_unknownsOf 31 = .ok (.aload_n 0, 1) := by decide +kernel
theorem dX6_unknownsOf_32 : decode cX6_unknownsOf 32 = .ok (.getfield 11, 3) := by decide +kernel
theorem dX6_unknownsOf_35 : decode cX6_unknownsOf 35 = .ok (.iload_n 3, 1) := by decide +kernel
theorem dX6_unknownsOf_36 : decode cX6_unknownsOf 36 = .ok (.iconst 5, 1) := by decide +kernel
theorem dX6_unknownsOf_37 : decode cX6_unknownsOf 37 = .ok (.imul, 1) := by decide +kernel
theorem dX6_unknownsOf_38 : decode cX6_unknownsOf 38 = .ok (.iload 4, 2) := by decide +kernel
theorem dX6_unknownsOf_40 : decode cX6_unknownsOf 40 = .ok (.iadd, 1) := by decide +kernel
theorem dX6_unknownsOf_41 : decode cX6_unknownsOf 41 = .ok (.iaload, 1) := by decide +kernel
theorem dX6_unknownsOf_42 : decode cX6_unknownsOf 42 = .ok (.ifCond .eq 10, 3) := by decide +kernel
theorem dX6_unknownsOf_45 : decode cX6_unknownsOf 45 = .ok (.iload_n 2, 1) := by decide +kernel
theorem dX6_unknownsOf_46 : decode cX6_unknownsOf 46 = .ok (.iconst 1, 1) := by decide +kernel
theorem dX6_unknownsOf_47 : decode cX6_unknownsOf 47 = .ok (.iload 4, 2) := by decide +kernel
theorem dX6_unknownsOf_49 : decode cX6_unknownsOf 49 = .ok (.ishl, 1) := by decide +kernel
theorem dX6_unknownsOf_50 : decode cX6_unknownsOf 50 = .ok (.ior, 1) := by decide +kernel
theorem dX6_unknownsOf_51 : decode cX6_unknownsOf 51 = .ok (.istore_n 2, 1) := by decide +kernel
theorem dX6_unknownsOf_52 : decode cX6_unknownsOf 52 = .ok (.iinc 4 1, 3) := by decide +kernel
theorem dX6_unknownsOf_55 : decode cX6_unknownsOf 55 = .ok (.goto (-40), 3) := by decide +kernel
theorem dX6_unknownsOf_58 : decode cX6_unknownsOf 58 = .ok (.iinc 3 1, 3) := by decide +kernel
theorem dX6_unknownsOf_61 : decode cX6_unknownsOf 61 = .ok (.goto (-57), 3) := by decide +kernel
theorem dX6_unknownsOf_64 : decode cX6_unknownsOf 64 = .ok (.iload_n 2, 1) := by decide +kernel
theorem dX6_unknownsOf_65 : decode cX6_unknownsOf 65 = .ok (.ireturn, 1) := by decide +kernel
set_option maxRecDepth 20000 in
theorem ggX6_freeUnknowns_X6_unknownsOf : GoodIn wsX6_freeUnknowns wsX6_unknownsOf := goodIn_r _ [5, 6, 7, 8, 9, 10, 11, 12, 13, 14, 15, 16] (by decide +kernel) (by decide +kernel)
set_option maxRecDepth 20000 in
theorem gX6_freeUnknowns_X6_unknownsOf : GoodIn wsX6_freeUnknowns (wsV RX6 41 RX6 yX6_unknownsOf wsX6_unknownsOf) := goodIn_app (goodIn_of _ (by decide +kernel)) ggX6_freeUnknowns_X6_unknownsOf
theorem dX6_freeUnknowns_0 : decode cX6_freeUnknowns 0 = .ok (.aload_n 0, 1) := by decide +kernel
theorem dX6_freeUnknowns_1 : decode cX6_freeUnknowns 1 = .ok (.iconst 0, 1) := by decide +kernel
theorem dX6_freeUnknowns_2 : decode cX6_freeUnknowns 2 = .ok (.invokevirtual 41, 3) := by decide +kernel
theorem dX6_freeUnknowns_5 : decode cX6_freeUnknowns 5 = .ok (.aload_n 0, 1) := by decide +kernel
theorem dX6_freeUnknowns_6 : decode cX6_freeUnknowns 6 = .ok (.iconst 1, 1) := by decide +kernel
theorem dX6_freeUnknowns_7 : decode cX6_freeUnknowns 7 = .ok (.invokevirtual 41, 3) := by decide +kernel
theorem dX6_freeUnknowns_10 : decode cX6_freeUnknowns 10 = .ok (.ixor, 1) := by decide +kernel
theorem dX6_freeUnknowns_11 : decode cX6_freeUnknowns 11 = .ok (.istore_n 1, 1) := by decide +kernel
theorem dX6_freeUnknowns_12 : decode cX6_freeUnknowns 12 = .ok (.iload_n 1, 1) := by decide +kernel
theorem dX6_freeUnknowns_13 : decode cX6_freeUnknowns 13 = .ok (.iconst (-1), 1) := by decide +kernel
theorem dX6_freeUnknowns_14 : decode cX6_freeUnknowns 14 = .ok (.ixor, 1) := by decide +kernel
theorem dX6_freeUnknowns_15 : decode cX6_freeUnknowns 15 = .ok (.bipush 15, 2) := by decide +kernel
theorem dX6_freeUnknowns_17 : decode cX6_freeUnknowns 17 = .ok (.iand, 1) := by decide +kernel
theorem dX6_freeUnknowns_18 : decode cX6_freeUnknowns 18 = .ok (.ireturn, 1) := by decide +kernel
set_option maxRecDepth 20000 in
theorem ggX6_middleUnknowns_X6_middle : GoodIn wsX6_middleUnknowns wsX6_middle := goodIn_r _ [5, 6, 7, 8, 9, 10, 11, 12, 13, 14, 15, 16, 17] (by decide +kernel) (by decide +kernel)
set_option maxRecDepth 20000 in
theorem gX6_middleUnknowns_X6_middle : GoodIn wsX6_middleUnknowns (wsV RX6 44 RX6 yX6_middle wsX6_middle) := goodIn_app (goodIn_of _ (by decide +kernel)) ggX6_middleUnknowns_X6_middle
theorem dX6_middleUnknowns_0 : decode cX6_middleUnknowns 0 = .ok (.iconst 0, 1) := by decide +kernel
theorem dX6_middleUnknowns_1 : decode cX6_middleUnknowns 1 = .ok (.istore_n 1, 1) := by decide +kernel
theorem dX6_middleUnknowns_2 : decode cX6_middleUnknowns 2 = .ok (.iconst 0, 1) := by decide +kernel
theorem dX6_middleUnknowns_3 : decode cX6_middleUnknowns 3 = .ok (.istore_n 2, 1) := by decide +kernel
theorem dX6_middleUnknowns_4 : decode cX6_middleUnknowns 4 = .ok (.iload_n 2, 1) := by decide +kernel
theorem dX6_middleUnknowns_5 : decode cX6_middleUnknowns 5 = .ok (.iconst 4, 1) := by decide +kernel
theorem dX6_middleUnknowns_6 : decode cX6_middleUnknowns 6 = .ok (.if_icmp .ge 23, 3) := by decide +kernel
theorem dX6_middleUnknowns_9 : decode cX6_middleUnknowns 9 = .ok (.aload_n 0, 1) := by decide +kernel
theorem dX6_middleUnknowns_10 : decode cX6_middleUnknowns 10 = .ok (.iload_n 2, 1) := by decide +kernel
theorem dX6_middleUnknowns_11 : decode cX6_middleUnknowns 11 = .ok (.invokevirtual 44, 3) := by decide +kernel
theorem dX6_middleUnknowns_14 : decode cX6_middleUnknowns 14 = .ok (.ifCond .eq 9, 3) := by decide +kernel
theorem dX6_middleUnknowns_17 : decode cX6_middleUnknowns 17 = .ok (.iload_n 1, 1) := by decide +kernel
theorem dX6_middleUnknowns_18 : decode cX6_middleUnknowns 18 = .ok (.iconst 1, 1) := by decide +kernel
theorem dX6_middleUnknowns_19 : decode cX6_middleUnknowns 19 = .ok (.iload_n 2, 1) := by decide +kernel
theorem dX6_middleUnknowns_20 : decode cX6_middleUnknowns 20 = .ok (.ishl, 1) := by decide +kernel
theorem dX6_middleUnknowns_21 : decode cX6_middleUnknowns 21 = .ok (.ior, 1) := by decide +kernel
theorem dX6_middleUnknowns_22 : decode cX6_middleUnknowns 22 = .ok (.istore_n 1, 1) := by decide +kernel
theorem dX6_middleUnknowns_23 : decode cX6_middleUnknowns 23 = .ok (.iinc 2 1, 3) := by decide +kernel
theorem dX6_middleUnknowns_26 : decode cX6_middleUnknowns 26 = .ok (.goto (-22), 3) := by decide +kernel
theorem dX6_middleUnknowns_29 : decode cX6_middleUnknowns 29 = .ok (.iload_n 1, 1) := by decide +kernel
theorem dX6_middleUnknowns_30 : decode cX6_middleUnknowns 30 = .ok (.ireturn, 1) := by decide +kernel
set_option maxRecDepth 20000 in
theorem ggX6_findLeastWeights_X6_boundWhatFollows : GoodIn wsX6_findLeastWeights wsX6_boundWhatFollows := goodIn_r _ [12, 13, 3, 14, 15, 16, 17, 18, 19, 20, 21, 22, 35, 36, 37, 38, 39, 40, 41, 42] (by decide +kernel) (by decide +kernel)
set_option maxRecDepth 20000 in
theorem gX6_findLeastWeights_X6_boundWhatFollows : GoodIn wsX6_findLeastWeights (wsV RX6 47 RX6 yX6_boundWhatFollows wsX6_boundWhatFollows) := goodIn_app (goodIn_of _ (by decide +kernel)) ggX6_findLeastWeights_X6_boundWhatFollows
set_option maxRecDepth 20000 in
theorem ggX6_findLeastWeights_X6_findFrom : GoodIn wsX6_findLeastWeights wsX6_findFrom := goodIn_r _ [25, 3, 1, 26, 27, 28, 11, 29, 30, 13, 14, 31, 32, 33, 34, 15, 23, 24, 35, 36, 37, 38, 39, 40, 41, 42] (by decide +kernel) (by decide +kernel)
set_option maxRecDepth 20000 in
theorem gX6_findLeastWeights_X6_findFrom : GoodIn wsX6_findLeastWeights (va_wsS RX6 50 yX6_findFrom wsX6_findFrom) := goodIn_app (goodIn_of _ (by decide +kernel)) ggX6_findLeastWeights_X6_findFrom
theorem dX6_findLeastWeights_0 : decode cX6_findLeastWeights 0 = .ok (.aload_n 0, 1) := by decide +kernel
theorem dX6_findLeastWeights_1 : decode cX6_findLeastWeights 1 = .ok (.invokevirtual 47, 3) := by decide +kernel
theorem dX6_findLeastWeights_4 : decode cX6_findLeastWeights 4 = .ok (.iconst 1, 1) := by decide +kernel
theorem dX6_findLeastWeights_5 : decode cX6_findLeastWeights 5 = .ok (.istore_n 1, 1) := by decide +kernel
theorem dX6_findLeastWeights_6 : decode cX6_findLeastWeights 6 = .ok (.iload_n 1, 1) := by decide +kernel
theorem dX6_findLeastWeights_7 : decode cX6_findLeastWeights 7 = .ok (.bipush 6, 2) := by decide +kernel
theorem dX6_findLeastWeights_9 : decode cX6_findLeastWeights 9 = .ok (.if_icmp .gt 37, 3) := by decide +kernel
theorem dX6_findLeastWeights_12 : decode cX6_findLeastWeights 12 = .ok (.aload_n 0, 1) := by decide +kernel
theorem dX6_findLeastWeights_13 : decode cX6_findLeastWeights 13 = .ok (.iconst 0, 1) := by decide +kernel
theorem dX6_findLeastWeights_14 : decode cX6_findLeastWeights 14 = .ok (.iload_n 1, 1) := by decide +kernel
theorem dX6_findLeastWeights_15 : decode cX6_findLeastWeights 15 = .ok (.invokestatic 50, 3) := by decide +kernel
theorem dX6_findLeastWeights_18 : decode cX6_findLeastWeights 18 = .ok (.ifCond .eq 22, 3) := by decide +kernel
theorem dX6_findLeastWeights_21 : decode cX6_findLeastWeights 21 = .ok (.aload_n 0, 1) := by decide +kernel
theorem dX6_findLeastWeights_22 : decode cX6_findLeastWeights 22 = .ok (.getfield 21, 3) := by decide +kernel
theorem dX6_findLeastWeights_25 : decode cX6_findLeastWeights 25 = .ok (.iconst 0, 1) := by decide +kernel
theorem dX6_findLeastWeights_26 : decode cX6_findLeastWeights 26 = .ok (.aload_n 0, 1) := by decide +kernel
theorem dX6_findLeastWeights_27 : decode cX6_findLeastWeights 27 = .ok (.getfield 18, 3) := by decide +kernel
theorem dX6_findLeastWeights_30 : decode cX6_findLeastWeights 30 = .ok (.iconst 0, 1) := by decide +kernel
theorem dX6_findLeastWeights_31 : decode cX6_findLeastWeights 31 = .ok (.aload_n 0, 1) := by decide +kernel
theorem dX6_findLeastWeights_32 : decode cX6_findLeastWeights 32 = .ok (.getfield 33, 3) := by decide +kernel
theorem dX6_findLeastWeights_35 : decode cX6_findLeastWeights 35 = .ok (.invokestatic 54, 3) := by decide +kernel
theorem dX6_findLeastWeights_38 : decode cX6_findLeastWeights 38 = .ok (.iload_n 1, 1) := by decide +kernel
theorem dX6_findLeastWeights_39 : decode cX6_findLeastWeights 39 = .ok (.ireturn, 1) := by decide +kernel
theorem dX6_findLeastWeights_40 : decode cX6_findLeastWeights 40 = .ok (.iinc 1 1, 3) := by decide +kernel
theorem dX6_findLeastWeights_43 : decode cX6_findLeastWeights 43 = .ok (.goto (-37), 3) := by decide +kernel
theorem dX6_findLeastWeights_46 : decode cX6_findLeastWeights 46 = .ok (.iconst (-1), 1) := by decide +kernel
theorem dX6_findLeastWeights_47 : decode cX6_findLeastWeights 47 = .ok (.ireturn, 1) := by decide +kernel
theorem dX6_boundWhatFollows_0 : decode cX6_boundWhatFollows 0 = .ok (.iconst 0, 1) := by decide +kernel
theorem dX6_boundWhatFollows_1 : decode cX6_boundWhatFollows 1 = .ok (.istore_n 1, 1) := by decide +kernel
theorem dX6_boundWhatFollows_2 : decode cX6_boundWhatFollows 2 = .ok (.iload_n 1, 1) := by decide +kernel
theorem dX6_boundWhatFollows_3 : decode cX6_boundWhatFollows 3 = .ok (.iconst 5, 1) := by decide +kernel
theorem dX6_boundWhatFollows_4 : decode cX6_boundWhatFollows 4 = .ok (.if_icmp .ge 121, 3) := by decide +kernel
theorem dX6_boundWhatFollows_7 : decode cX6_boundWhatFollows 7 = .ok (.aload_n 0, 1) := by decide +kernel
theorem dX6_boundWhatFollows_8 : decode cX6_boundWhatFollows 8 = .ok (.getfield 27, 3) := by decide +kernel
theorem dX6_boundWhatFollows_11 : decode cX6_boundWhatFollows 11 = .ok (.aload_n 0, 1) := by decide +kernel
theorem dX6_boundWhatFollows_12 : decode cX6_boundWhatFollows 12 = .ok (.getfield 33, 3) := by decide +kernel
theorem dX6_boundWhatFollows_15 : decode cX6_boundWhatFollows 15 = .ok (.iconst 5, 1) := by decide +kernel
theorem dX6_boundWhatFollows_16 : decode cX6_boundWhatFollows 16 = .ok (.imul, 1) := by decide +kernel
theorem dX6_boundWhatFollows_17 : decode cX6_boundWhatFollows 17 = .ok (.iload_n 1, 1) := by decide +kernel
theorem dX6_boundWhatFollows_18 : decode cX6_boundWhatFollows 18 = .ok (.iadd, 1) := by decide +kernel
theorem dX6_boundWhatFollows_19 : decode cX6_boundWhatFollows 19 = .ok (.iconst 0, 1) := by decide +kernel
theorem dX6_boundWhatFollows_20 : decode cX6_boundWhatFollows 20 = .ok (.iastore, 1) := by decide +kernel
theorem dX6_boundWhatFollows_21 : decode cX6_boundWhatFollows 21 = .ok (.aload_n 0, 1) := by decide +kernel
theorem dX6_boundWhatFollows_22 : decode cX6_boundWhatFollows 22 = .ok (.getfield 30, 3) := by decide +kernel
theorem dX6_boundWhatFollows_25 : decode cX6_boundWhatFollows 25 = .ok (.aload_n 0, 1) := by decide +kernel
theorem dX6_boundWhatFollows_26 : decode cX6_boundWhatFollows 26 = .ok (.getfield 33, 3) := by decide +kernel
theorem dX6_boundWhatFollows_29 : decode cX6_boundWhatFollows 29 = .ok (.iconst 5, 1) := by decide +kernel
theorem dX6_boundWhatFollows_30 : decode cX6_boundWhatFollows 30 = .ok (.imul, 1) := by decide +kernel
theorem dX6_boundWhatFollows_31 : decode cX6_boundWhatFollows 31 = .ok (.iload_n 1, 1) := by decide +kernel
theorem dX6_boundWhatFollows_32 : decode cX6_boundWhatFollows 32 = .ok (.iadd, 1) := by decide +kernel
theorem dX6_boundWhatFollows_33 : decode cX6_boundWhatFollows 33 = .ok (.iconst 0, 1) := by decide +kernel
theorem dX6_boundWhatFollows_34 : decode cX6_boundWhatFollows 34 = .ok (.iastore, 1) := by decide +kernel
theorem dX6_boundWhatFollows_35 : decode cX6_boundWhatFollows 35 = .ok (.aload_n 0, 1) := by decide +kernel
theorem dX6_boundWhatFollows_36 : decode cX6_boundWhatFollows 36 = .ok (.getfield 33, 3) := by decide +kernel
theorem dX6_boundWhatFollows_39 : decode cX6_boundWhatFollows 39 = .ok (.iconst 1, 1) := by decide +kernel
theorem dX6_boundWhatFollows_40 : decode cX6_boundWhatFollows 40 = .ok (.isub, 1) := by decide +kernel
theorem dX6_boundWhatFollows_41 : decode cX6_boundWhatFollows 41 = .ok (.istore_n 2, 1) := by decide +kernel
theorem dX6_boundWhatFollows_42 : decode cX6_boundWhatFollows 42 = .ok (.iload_n 2, 1) := by decide +kernel
theorem dX6_boundWhatFollows_43 : decode cX6_boundWhatFollows 43 = .ok (.ifCond .lt 76, 3) := by decide +kernel
theorem dX6_boundWhatFollows_46 : decode cX6_boundWhatFollows 46 = .ok (.aload_n 0, 1) := by decide +kernel
theorem dX6_boundWhatFollows_47 : decode cX6_boundWhatFollows 47 = .ok (.getfield 11, 3) := by decide +kernel
theorem dX6_boundWhatFollows_50 : decode cX6_boundWhatFollows 50 = .ok (.iload_n 2, 1) := by decide +kernel
theorem dX6_boundWhatFollows_51 : decode cX6_boundWhatFollows 51 = .ok (.iconst 5, 1) := by decide +kernel
theorem dX6_boundWhatFollows_52 : decode cX6_boundWhatFollows 52 = .ok (.imul, 1) := by decide +kernel
theorem dX6_boundWhatFollows_53 : decode cX6_boundWhatFollows 53 = .ok (.iload_n 1, 1) := by decide +kernel
theorem dX6_boundWhatFollows_54 : decode cX6_boundWhatFollows 54 = .ok (.iadd, 1) := by decide +kernel
theorem dX6_boundWhatFollows_55 : decode cX6_boundWhatFollows 55 = .ok (.iaload, 1) := by decide +kernel
theorem dX6_boundWhatFollows_56 : decode cX6_boundWhatFollows 56 = .ok (.istore_n 3, 1) := by decide +kernel
theorem dX6_boundWhatFollows_57 : decode cX6_boundWhatFollows 57 = .ok (.aload_n 0, 1) := by decide +kernel
theorem dX6_boundWhatFollows_58 : decode cX6_boundWhatFollows 58 = .ok (.getfield 27, 3) := by decide +kernel
theorem dX6_boundWhatFollows_61 : decode cX6_boundWhatFollows 61 = .ok (.iload_n 2, 1) := by decide +kernel
theorem dX6_boundWhatFollows_62 : decode cX6_boundWhatFollows 62 = .ok (.iconst 5, 1) := by decide +kernel
theorem dX6_boundWhatFollows_63 : decode cX6_boundWhatFollows 63 = .ok (.imul, 1) := by decide +kernel
theorem dX6_boundWhatFollows_64 : decode cX6_boundWhatFollows 64 = .ok (.iload_n 1, 1) := by decide +kernel
theorem dX6_boundWhatFollows_65 : decode cX6_boundWhatFollows 65 = .ok (.iadd, 1) := by decide +kernel
theorem dX6_boundWhatFollows_66 : decode cX6_boundWhatFollows 66 = .ok (.aload_n 0, 1) := by decide +kernel
theorem dX6_boundWhatFollows_67 : decode cX6_boundWhatFollows 67 = .ok (.getfield 27, 3) := by decide +kernel
theorem dX6_boundWhatFollows_70 : decode cX6_boundWhatFollows 70 = .ok (.iload_n 2, 1) := by decide +kernel
theorem dX6_boundWhatFollows_71 : decode cX6_boundWhatFollows 71 = .ok (.iconst 1, 1) := by decide +kernel
theorem dX6_boundWhatFollows_72 : decode cX6_boundWhatFollows 72 = .ok (.iadd, 1) := by decide +kernel
theorem dX6_boundWhatFollows_73 : decode cX6_boundWhatFollows 73 = .ok (.iconst 5, 1) := by decide +kernel
theorem dX6_boundWhatFollows_74 : decode cX6_boundWhatFollows 74 = .ok (.imul, 1) := by decide +kernel
theorem dX6_boundWhatFollows_75 : decode cX6_boundWhatFollows 75 = .ok (.iload_n 1, 1) := by decide +kernel
theorem dX6_boundWhatFollows_76 : decode cX6_boundWhatFollows 76 = .ok (.iadd, 1) := by decide +kernel
theorem dX6_boundWhatFollows_77 : decode cX6_boundWhatFollows 77 = .ok (.iaload, 1) := by decide +kernel
theorem dX6_boundWhatFollows_78 : decode cX6_boundWhatFollows 78 = .ok (.iload_n 3, 1) := by decide +kernel
theorem dX6_boundWhatFollows_79 : decode cX6_boundWhatFollows 79 = .ok (.iconst 0, 1) := by decide +kernel
theorem dX6_boundWhatFollows_80 : decode cX6_boundWhatFollows 80 = .ok (.invokestatic 60, 3) := by decide +kernel
theorem dX6_boundWhatFollows_83 : decode cX6_boundWhatFollows 83 = .ok (.iadd, 1) := by decide +kernel
theorem dX6_boundWhatFollows_84 : decode cX6_boundWhatFollows 84 = .ok (.iastore, 1) := by decide +kernel
theorem dX6_boundWhatFollows_85 : decode cX6_boundWhatFollows 85 = .ok (.aload_n 0, 1) := by decide +kernel
theorem dX6_boundWhatFollows_86 : decode cX6_boundWhatFollows 86 = .ok (.getfield 30, 3) := by decide +kernel
theorem dX6_boundWhatFollows_89 : decode cX6_boundWhatFollows 89 = .ok (.iload_n 2, 1) := by decide +kernel
theorem dX6_boundWhatFollows_90 : decode cX6_boundWhatFollows 90 = .ok (.iconst 5, 1) := by decide +kernel
theorem dX6_boundWhatFollows_91 : decode cX6_boundWhatFollows 91 = .ok (.imul, 1) := by decide +kernel
theorem dX6_boundWhatFollows_92 : decode cX6_boundWhatFollows 92 = .ok (.iload_n 1, 1) := by decide +kernel
theorem dX6_boundWhatFollows_93 : decode cX6_boundWhatFollows 93 = .ok (.iadd, 1) := by decide +kernel
theorem dX6_boundWhatFollows_94 : decode cX6_boundWhatFollows 94 = .ok (.aload_n 0, 1) := by decide +kernel
theorem dX6_boundWhatFollows_95 : decode cX6_boundWhatFollows 95 = .ok (.getfield 30, 3) := by decide +kernel
theorem dX6_boundWhatFollows_98 : decode cX6_boundWhatFollows 98 = .ok (.iload_n 2, 1) := by decide +kernel
theorem dX6_boundWhatFollows_99 : decode cX6_boundWhatFollows 99 = .ok (.iconst 1, 1) := by decide +kernel
theorem dX6_boundWhatFollows_100 : decode cX6_boundWhatFollows 100 = .ok (.iadd, 1) := by decide +kernel
theorem dX6_boundWhatFollows_101 : decode cX6_boundWhatFollows 101 = .ok (.iconst 5, 1) := by decide +kernel
theorem dX6_boundWhatFollows_102 : decode cX6_boundWhatFollows 102 = .ok (.imul, 1) := by decide +kernel
theorem dX6_boundWhatFollows_103 : decode cX6_boundWhatFollows 103 = .ok (.iload_n 1, 1) := by decide +kernel
theorem dX6_boundWhatFollows_104 : decode cX6_boundWhatFollows 104 = .ok (.iadd, 1) := by decide +kernel
theorem dX6_boundWhatFollows_105 : decode cX6_boundWhatFollows 105 = .ok (.iaload, 1) := by decide +kernel
theorem dX6_boundWhatFollows_106 : decode cX6_boundWhatFollows 106 = .ok (.iload_n 3, 1) := by decide +kernel
theorem dX6_boundWhatFollows_107 : decode cX6_boundWhatFollows 107 = .ok (.iconst 0, 1) := by decide +kernel
theorem dX6_boundWhatFollows_108 : decode cX6_boundWhatFollows 108 = .ok (.invokestatic 66, 3) := by decide +kernel
theorem dX6_boundWhatFollows_111 : decode cX6_boundWhatFollows 111 = .ok (.iadd, 1) := by decide +kernel
theorem dX6_boundWhatFollows_112 : decode cX6_boundWhatFollows 112 = .ok (.iastore, 1) := by decide +kernel
theorem dX6_boundWhatFollows_113 : decode cX6_boundWhatFollows 113 = .ok (.iinc 2 (-1), 3) := by decide +kernel
theorem dX6_boundWhatFollows_116 : decode cX6_boundWhatFollows 116 = .ok (.goto (-74), 3) := by decide +kernel
theorem dX6_boundWhatFollows_119 : decode cX6_boundWhatFollows 119 = .ok (.iinc 1 1, 3) := by decide +kernel
theorem dX6_boundWhatFollows_122 : decode cX6_boundWhatFollows 122 = .ok (.goto (-120), 3) := by decide +kernel
theorem dX6_boundWhatFollows_125 : decode cX6_boundWhatFollows 125 = .ok (.return_, 1) := by decide +kernel
set_option maxRecDepth 20000 in
theorem ggX6_findFrom_X6_canStillRefute : GoodIn wsX6_findFrom wsX6_canStillRefute := goodIn_r _ [7, 8, 9, 10, 18, 19, 20, 21, 22, 23, 24, 25] (by decide +kernel) (by decide +kernel)
set_option maxRecDepth 20000 in
theorem gX6_findFrom_X6_canStillRefute : GoodIn wsX6_findFrom (wsV RX6 69 RX6 yX6_canStillRefute wsX6_canStillRefute) := goodIn_app (goodIn_of _ (by decide +kernel)) ggX6_findFrom_X6_canStillRefute
set_option maxRecDepth 20000 in
theorem ggX6_findFrom_X6_addToTotal : GoodIn wsX6_findFrom wsX6_addToTotal := goodIn_r _ [14, 8, 15, 18, 19, 20, 21, 22, 23, 24, 25] (by decide +kernel) (by decide +kernel)
set_option maxRecDepth 20000 in
theorem gX6_findFrom_X6_addToTotal : GoodIn wsX6_findFrom (wsV RX6 73 RX6 yX6_addToTotal wsX6_addToTotal) := goodIn_app (goodIn_of _ (by decide +kernel)) ggX6_findFrom_X6_addToTotal
set_option maxRecDepth 20000 in
theorem ggX6_findFrom_X6_findFrom : GoodIn wsX6_findFrom wsX6_findFrom := goodIn_r _ [0, 1, 2, 3, 4, 5, 6, 7, 8, 9, 10, 11, 12, 13, 14, 15, 16, 17, 18, 19, 20, 21, 22, 23, 24, 25] (by decide +kernel) (by decide +kernel)
set_option maxRecDepth 20000 in
theorem gX6_findFrom_X6_findFrom : GoodIn wsX6_findFrom (va_wsS RX6 50 yX6_findFrom wsX6_findFrom) := goodIn_app (goodIn_of _ (by decide +kernel)) ggX6_findFrom_X6_findFrom
theorem dX6_findFrom_0 : decode cX6_findFrom 0 = .ok (.aload_n 0, 1) := by decide +kernel
theorem dX6_findFrom_1 : decode cX6_findFrom 1 = .ok (.iload_n 1, 1) := by decide +kernel
theorem dX6_findFrom_2 : decode cX6_findFrom 2 = .ok (.iload_n 2, 1) := by decide +kernel
theorem dX6_findFrom_3 : decode cX6_findFrom 3 = .ok (.invokevirtual 69, 3) := by decide +kernel
theorem dX6_findFrom_6 : decode cX6_findFrom 6 = .ok (.ifCond .ne 5, 3) := by decide +kernel
theorem dX6_findFrom_9 : decode cX6_findFrom 9 = .ok (.iconst 0, 1) := by decide +kernel
theorem dX6_findFrom_10 : decode cX6_findFrom 10 = .ok (.ireturn, 1) := by decide +kernel
theorem dX6_findFrom_11 : decode cX6_findFrom 11 = .ok (.iload_n 1, 1) := by decide +kernel
theorem dX6_findFrom_12 : decode cX6_findFrom 12 = .ok (.aload_n 0, 1) := by decide +kernel
theorem dX6_findFrom_13 : decode cX6_findFrom 13 = .ok (.getfield 33, 3) := by decide +kernel
theorem dX6_findFrom_16 : decode cX6_findFrom 16 = .ok (.if_icmp .lt 5, 3) := by decide +kernel
theorem dX6_findFrom_19 : decode cX6_findFrom 19 = .ok (.iconst 1, 1) := by decide +kernel
theorem dX6_findFrom_20 : decode cX6_findFrom 20 = .ok (.ireturn, 1) := by decide +kernel
theorem dX6_findFrom_21 : decode cX6_findFrom 21 = .ok (.iconst 0, 1) := by decide +kernel
theorem dX6_findFrom_22 : decode cX6_findFrom 22 = .ok (.istore_n 3, 1) := by decide +kernel
theorem dX6_findFrom_23 : decode cX6_findFrom 23 = .ok (.iload_n 3, 1) := by decide +kernel
theorem dX6_findFrom_24 : decode cX6_findFrom 24 = .ok (.iload_n 2, 1) := by decide +kernel
theorem dX6_findFrom_25 : decode cX6_findFrom 25 = .ok (.if_icmp .gt 46, 3) := by decide +kernel
theorem dX6_findFrom_28 : decode cX6_findFrom 28 = .ok (.aload_n 0, 1) := by decide +kernel
theorem dX6_findFrom_29 : decode cX6_findFrom 29 = .ok (.getfield 21, 3) := by decide +kernel
theorem dX6_findFrom_32 : decode cX6_findFrom 32 = .ok (.iload_n 1, 1) := by decide +kernel
theorem dX6_findFrom_33 : decode cX6_findFrom 33 = .ok (.iload_n 3, 1) := by decide +kernel
theorem dX6_findFrom_34 : decode cX6_findFrom 34 = .ok (.iastore, 1) := by decide +kernel
theorem dX6_findFrom_35 : decode cX6_findFrom 35 = .ok (.aload_n 0, 1) := by decide +kernel
theorem dX6_findFrom_36 : decode cX6_findFrom 36 = .ok (.iload_n 1, 1) := by decide +kernel
theorem dX6_findFrom_37 : decode cX6_findFrom 37 = .ok (.iload_n 3, 1) := by decide +kernel
theorem dX6_findFrom_38 : decode cX6_findFrom 38 = .ok (.invokevirtual 73, 3) := by decide +kernel
theorem dX6_findFrom_41 : decode cX6_findFrom 41 = .ok (.aload_n 0, 1) := by decide +kernel
theorem dX6_findFrom_42 : decode cX6_findFrom 42 = .ok (.iload_n 1, 1) := by decide +kernel
theorem dX6_findFrom_43 : decode cX6_findFrom 43 = .ok (.iconst 1, 1) := by decide +kernel
theorem dX6_findFrom_44 : decode cX6_findFrom 44 = .ok (.iadd, 1) := by decide +kernel
theorem dX6_findFrom_45 : decode cX6_findFrom 45 = .ok (.iload_n 2, 1) := by decide +kernel
theorem dX6_findFrom_46 : decode cX6_findFrom 46 = .ok (.invokestatic 50, 3) := by decide +kernel
theorem dX6_findFrom_49 : decode cX6_findFrom 49 = .ok (.istore 4, 2) := by decide +kernel
theorem dX6_findFrom_51 : decode cX6_findFrom 51 = .ok (.aload_n 0, 1) := by decide +kernel
theorem dX6_findFrom_52 : decode cX6_findFrom 52 = .ok (.iload_n 1, 1) := by decide +kernel
theorem dX6_findFrom_53 : decode cX6_findFrom 53 = .ok (.iload_n 3, 1) := by decide +kernel
theorem dX6_findFrom_54 : decode cX6_findFrom 54 = .ok (.ineg, 1) := by decide +kernel
theorem dX6_findFrom_55 : decode cX6_findFrom 55 = .ok (.invokevirtual 73, 3) := by decide +kernel
theorem dX6_findFrom_58 : decode cX6_findFrom 58 = .ok (.iload 4, 2) := by decide +kernel
theorem dX6_findFrom_60 : decode cX6_findFrom 60 = .ok (.ifCond .eq 5, 3) := by decide +kernel
theorem dX6_findFrom_63 : decode cX6_findFrom 63 = .ok (.iconst 1, 1) := by decide +kernel
theorem dX6_findFrom_64 : decode cX6_findFrom 64 = .ok (.ireturn, 1) := by decide +kernel
theorem dX6_findFrom_65 : decode cX6_findFrom 65 = .ok (.iinc 3 1, 3) := by decide +kernel
theorem dX6_findFrom_68 : decode cX6_findFrom 68 = .ok (.goto (-45), 3) := by decide +kernel
theorem dX6_findFrom_71 : decode cX6_findFrom 71 = .ok (.iconst 0, 1) := by decide +kernel
theorem dX6_findFrom_72 : decode cX6_findFrom 72 = .ok (.ireturn, 1) := by decide +kernel
theorem dX6_canStillRefute_0 : decode cX6_canStillRefute 0 = .ok (.iload_n 1, 1) := by decide +kernel
theorem dX6_canStillRefute_1 : decode cX6_canStillRefute 1 = .ok (.iconst 5, 1) := by decide +kernel
theorem dX6_canStillRefute_2 : decode cX6_canStillRefute 2 = .ok (.imul, 1) := by decide +kernel
theorem dX6_canStillRefute_3 : decode cX6_canStillRefute 3 = .ok (.istore_n 3, 1) := by decide +kernel
theorem dX6_canStillRefute_4 : decode cX6_canStillRefute 4 = .ok (.iconst 0, 1) := by decide +kernel
theorem dX6_canStillRefute_5 : decode cX6_canStillRefute 5 = .ok (.istore 4, 2) := by decide +kernel
theorem dX6_canStillRefute_7 : decode cX6_canStillRefute 7 = .ok (.iload 4, 2) := by decide +kernel
theorem dX6_canStillRefute_9 : decode cX6_canStillRefute 9 = .ok (.iconst 4, 1) := by decide +kernel
theorem dX6_canStillRefute_10 : decode cX6_canStillRefute 10 = .ok (.if_icmp .ge 55, 3) := by decide +kernel
theorem dX6_canStillRefute_13 : decode cX6_canStillRefute 13 = .ok (.aload_n 0, 1) := by decide +kernel
theorem dX6_canStillRefute_14 : decode cX6_canStillRefute 14 = .ok (.getfield 24, 3) := by decide +kernel
theorem dX6_canStillRefute_17 : decode cX6_canStillRefute 17 = .ok (.iload 4, 2) := by decide +kernel
theorem dX6_canStillRefute_19 : decode cX6_canStillRefute 19 = .ok (.iaload, 1) := by decide +kernel
theorem dX6_canStillRefute_20 : decode cX6_canStillRefute 20 = .ok (.iload_n 2, 1) := by decide +kernel
theorem dX6_canStillRefute_21 : decode cX6_canStillRefute 21 = .ok (.aload_n 0, 1) := by decide +kernel
theorem dX6_canStillRefute_22 : decode cX6_canStillRefute 22 = .ok (.getfield 27, 3) := by decide +kernel
theorem dX6_canStillRefute_25 : decode cX6_canStillRefute 25 = .ok (.iload_n 3, 1) := by decide +kernel
theorem dX6_canStillRefute_26 : decode cX6_canStillRefute 26 = .ok (.iload 4, 2) := by decide +kernel
theorem dX6_canStillRefute_28 : decode cX6_canStillRefute 28 = .ok (.iadd, 1) := by decide +kernel
theorem dX6_canStillRefute_29 : decode cX6_canStillRefute 29 = .ok (.iaload, 1) := by decide +kernel
theorem dX6_canStillRefute_30 : decode cX6_canStillRefute 30 = .ok (.imul, 1) := by decide +kernel
theorem dX6_canStillRefute_31 : decode cX6_canStillRefute 31 = .ok (.iadd, 1) := by decide +kernel
theorem dX6_canStillRefute_32 : decode cX6_canStillRefute 32 = .ok (.ifCond .gt 25, 3) := by decide +kernel
theorem dX6_canStillRefute_35 : decode cX6_canStillRefute 35 = .ok (.aload_n 0, 1) := by decide +kernel
theorem dX6_canStillRefute_36 : decode cX6_canStillRefute 36 = .ok (.getfield 24, 3) := by decide +kernel
theorem dX6_canStillRefute_39 : decode cX6_canStillRefute 39 = .ok (.iload 4, 2) := by decide +kernel
theorem dX6_canStillRefute_41 : decode cX6_canStillRefute 41 = .ok (.iaload, 1) := by decide +kernel
theorem dX6_canStillRefute_42 : decode cX6_canStillRefute 42 = .ok (.iload_n 2, 1) := by decide +kernel
theorem dX6_canStillRefute_43 : decode cX6_canStillRefute 43 = .ok (.aload_n 0, 1) := by decide +kernel
theorem dX6_canStillRefute_44 : decode cX6_canStillRefute 44 = .ok (.getfield 30, 3) := by decide +kernel
theorem dX6_canStillRefute_47 : decode cX6_canStillRefute 47 = .ok (.iload_n 3, 1) := by decide +kernel
theorem dX6_canStillRefute_48 : decode cX6_canStillRefute 48 = .ok (.iload 4, 2) := by decide +kernel
theorem dX6_canStillRefute_50 : decode cX6_canStillRefute 50 = .ok (.iadd, 1) := by decide +kernel
theorem dX6_canStillRefute_51 : decode cX6_canStillRefute 51 = .ok (.iaload, 1) := by decide +kernel
theorem dX6_canStillRefute_52 : decode cX6_canStillRefute 52 = .ok (.imul, 1) := by decide +kernel
theorem dX6_canStillRefute_53 : decode cX6_canStillRefute 53 = .ok (.iadd, 1) := by decide +kernel
theorem dX6_canStillRefute_54 : decode cX6_canStillRefute 54 = .ok (.ifCond .ge 5, 3) := by decide +kernel
theorem dX6_canStillRefute_57 : decode cX6_canStillRefute 57 = .ok (.iconst 0, 1) := by decide +kernel
theorem dX6_canStillRefute_58 : decode cX6_canStillRefute 58 = .ok (.ireturn, 1) := by decide +kernel
theorem dX6_canStillRefute_59 : decode cX6_canStillRefute 59 = .ok (.iinc 4 1, 3) := by decide +kernel
theorem dX6_canStillRefute_62 : decode cX6_canStillRefute 62 = .ok (.goto (-55), 3) := by decide +kernel
theorem dX6_canStillRefute_65 : decode cX6_canStillRefute 65 = .ok (.aload_n 0, 1) := by decide +kernel
theorem dX6_canStillRefute_66 : decode cX6_canStillRefute 66 = .ok (.getfield 24, 3) := by decide +kernel
theorem dX6_canStillRefute_69 : decode cX6_canStillRefute 69 = .ok (.iconst 4, 1) := by decide +kernel
theorem dX6_canStillRefute_70 : decode cX6_canStillRefute 70 = .ok (.iaload, 1) := by decide +kernel
theorem dX6_canStillRefute_71 : decode cX6_canStillRefute 71 = .ok (.iload_n 2, 1) := by decide +kernel
theorem dX6_canStillRefute_72 : decode cX6_canStillRefute 72 = .ok (.aload_n 0, 1) := by decide +kernel
theorem dX6_canStillRefute_73 : decode cX6_canStillRefute 73 = .ok (.getfield 27, 3) := by decide +kernel
theorem dX6_canStillRefute_76 : decode cX6_canStillRefute 76 = .ok (.iload_n 3, 1) := by decide +kernel
theorem dX6_canStillRefute_77 : decode cX6_canStillRefute 77 = .ok (.iconst 4, 1) := by decide +kernel
theorem dX6_canStillRefute_78 : decode cX6_canStillRefute 78 = .ok (.iadd, 1) := by decide +kernel
theorem dX6_canStillRefute_79 : decode cX6_canStillRefute 79 = .ok (.iaload, 1) := by decide +kernel
theorem dX6_canStillRefute_80 : decode cX6_canStillRefute 80 = .ok (.imul, 1) := by decide +kernel
theorem dX6_canStillRefute_81 : decode cX6_canStillRefute 81 = .ok (.iadd, 1) := by decide +kernel
theorem dX6_canStillRefute_82 : decode cX6_canStillRefute 82 = .ok (.ifCond .ge 7, 3) := by decide +kernel
theorem dX6_canStillRefute_85 : decode cX6_canStillRefute 85 = .ok (.iconst 1, 1) := by decide +kernel
theorem dX6_canStillRefute_86 : decode cX6_canStillRefute 86 = .ok (.goto 4, 3) := by decide +kernel
theorem dX6_canStillRefute_89 : decode cX6_canStillRefute 89 = .ok (.iconst 0, 1) := by decide +kernel
theorem dX6_canStillRefute_90 : decode cX6_canStillRefute 90 = .ok (.ireturn, 1) := by decide +kernel
theorem dX6_addToTotal_0 : decode cX6_addToTotal 0 = .ok (.iconst 0, 1) := by decide +kernel
theorem dX6_addToTotal_1 : decode cX6_addToTotal 1 = .ok (.istore_n 3, 1) := by decide +kernel
theorem dX6_addToTotal_2 : decode cX6_addToTotal 2 = .ok (.iload_n 3, 1) := by decide +kernel
theorem dX6_addToTotal_3 : decode cX6_addToTotal 3 = .ok (.iconst 5, 1) := by decide +kernel
theorem dX6_addToTotal_4 : decode cX6_addToTotal 4 = .ok (.if_icmp .ge 30, 3) := by decide +kernel
theorem dX6_addToTotal_7 : decode cX6_addToTotal 7 = .ok (.aload_n 0, 1) := by decide +kernel
theorem dX6_addToTotal_8 : decode cX6_addToTotal 8 = .ok (.getfield 24, 3) := by decide +kernel
theorem dX6_addToTotal_11 : decode cX6_addToTotal 11 = .ok (.iload_n 3, 1) := by decide +kernel
theorem dX6_addToTotal_12 : decode cX6_addToTotal 12 = .ok (.dup2, 1) := by decide +kernel
theorem dX6_addToTotal_13 : decode cX6_addToTotal 13 = .ok (.iaload, 1) := by decide +kernel
theorem dX6_addToTotal_14 : decode cX6_addToTotal 14 = .ok (.aload_n 0, 1) := by decide +kernel
theorem dX6_addToTotal_15 : decode cX6_addToTotal 15 = .ok (.getfield 11, 3) := by decide +kernel
theorem dX6_addToTotal_18 : decode cX6_addToTotal 18 = .ok (.iload_n 1, 1) := by decide +kernel
theorem dX6_addToTotal_19 : decode cX6_addToTotal 19 = .ok (.iconst 5, 1) := by decide +kernel
theorem dX6_addToTotal_20 : decode cX6_addToTotal 20 = .ok (.imul, 1) := by decide +kernel
theorem dX6_addToTotal_21 : decode cX6_addToTotal 21 = .ok (.iload_n 3, 1) := by decide +kernel
theorem dX6_addToTotal_22 : decode cX6_addToTotal 22 = .ok (.iadd, 1) := by decide +kernel
theorem dX6_addToTotal_23 : decode cX6_addToTotal 23 = .ok (.iaload, 1) := by decide +kernel
theorem dX6_addToTotal_24 : decode cX6_addToTotal 24 = .ok (.iload_n 2, 1) := by decide +kernel
theorem dX6_addToTotal_25 : decode cX6_addToTotal 25 = .ok (.imul, 1) := by decide +kernel
theorem dX6_addToTotal_26 : decode cX6_addToTotal 26 = .ok (.iadd, 1) := by decide +kernel
theorem dX6_addToTotal_27 : decode cX6_addToTotal 27 = .ok (.iastore, 1) := by decide +kernel
theorem dX6_addToTotal_28 : decode cX6_addToTotal 28 = .ok (.iinc 3 1, 3) := by decide +kernel
theorem dX6_addToTotal_31 : decode cX6_addToTotal 31 = .ok (.goto (-29), 3) := by decide +kernel
theorem dX6_addToTotal_34 : decode cX6_addToTotal 34 = .ok (.return_, 1) := by decide +kernel
theorem dX7_init_0 : decode cX7_init 0 = .ok (.aload_n 0, 1) := by decide +kernel
theorem dX7_init_1 : decode cX7_init 1 = .ok (.invokespecial 3, 3) := by decide +kernel
theorem dX7_init_4 : decode cX7_init 4 = .ok (.aload_n 0, 1) := by decide +kernel
theorem dX7_init_5 : decode cX7_init 5 = .ok (.sipush 240, 3) := by decide +kernel
theorem dX7_init_8 : decode cX7_init 8 = .ok (.newarray .int, 2) := by decide +kernel
theorem dX7_init_10 : decode cX7_init 10 = .ok (.putfield 11, 3) := by decide +kernel
theorem dX7_init_13 : decode cX7_init 13 = .ok (.return_, 1) := by decide +kernel
theorem dX7_add_0 : decode cX7_add 0 = .ok (.aload_n 0, 1) := by decide +kernel
theorem dX7_add_1 : decode cX7_add 1 = .ok (.getfield 15, 3) := by decide +kernel
theorem dX7_add_4 : decode cX7_add 4 = .ok (.sipush 240, 3) := by decide +kernel
theorem dX7_add_7 : decode cX7_add 7 = .ok (.if_icmp .lt 5, 3) := by decide +kernel
theorem dX7_add_10 : decode cX7_add 10 = .ok (.iconst 0, 1) := by decide +kernel
theorem dX7_add_11 : decode cX7_add 11 = .ok (.ireturn, 1) := by decide +kernel
theorem dX7_add_12 : decode cX7_add 12 = .ok (.aload_n 0, 1) := by decide +kernel
theorem dX7_add_13 : decode cX7_add 13 = .ok (.getfield 11, 3) := by decide +kernel
theorem dX7_add_16 : decode cX7_add 16 = .ok (.aload_n 0, 1) := by decide +kernel
theorem dX7_add_17 : decode cX7_add 17 = .ok (.getfield 15, 3) := by decide +kernel
theorem dX7_add_20 : decode cX7_add 20 = .ok (.iload_n 1, 1) := by decide +kernel
theorem dX7_add_21 : decode cX7_add 21 = .ok (.iastore, 1) := by decide +kernel
theorem dX7_add_22 : decode cX7_add 22 = .ok (.aload_n 0, 1) := by decide +kernel
theorem dX7_add_23 : decode cX7_add 23 = .ok (.dup, 1) := by decide +kernel
theorem dX7_add_24 : decode cX7_add 24 = .ok (.getfield 15, 3) := by decide +kernel
theorem dX7_add_27 : decode cX7_add 27 = .ok (.iconst 1, 1) := by decide +kernel
theorem dX7_add_28 : decode cX7_add 28 = .ok (.iadd, 1) := by decide +kernel
theorem dX7_add_29 : decode cX7_add 29 = .ok (.putfield 15, 3) := by decide +kernel
theorem dX7_add_32 : decode cX7_add 32 = .ok (.iconst 1, 1) := by decide +kernel
theorem dX7_add_33 : decode cX7_add 33 = .ok (.ireturn, 1) := by decide +kernel
set_option maxRecDepth 20000 in
theorem ggX7_readInto_X5_forgetAll : GoodIn wsX7_readInto wsX5_forgetAll := goodIn_r _ [8, 9, 10, 11, 12, 85, 86, 87, 88, 89] (by decide +kernel) (by decide +kernel)
set_option maxRecDepth 20000 in
theorem gX7_readInto_X5_forgetAll : GoodIn wsX7_readInto (wsV RX7 25 RX5 yX5_forgetAll wsX5_forgetAll) := goodIn_app (goodIn_of _ (by decide +kernel)) ggX7_readInto_X5_forgetAll
set_option maxRecDepth 20000 in
theorem ggX7_readInto_X7_skipBlanks : GoodIn wsX7_readInto wsX7_skipBlanks := goodIn_r _ [17, 1, 3, 18, 79, 80, 81, 82, 83, 84] (by decide +kernel) (by decide +kernel)
set_option maxRecDepth 20000 in
theorem gX7_readInto_X7_skipBlanks : GoodIn wsX7_readInto (wsV RX7 30 RX7 yX7_skipBlanks wsX7_skipBlanks) := goodIn_app (goodIn_of _ (by decide +kernel)) ggX7_readInto_X7_skipBlanks
set_option maxRecDepth 20000 in
theorem ggX7_readInto_X7_readWord : GoodIn wsX7_readInto wsX7_readWord := goodIn_r _ [22, 18, 1, 23, 24, 25, 26, 27, 16, 28, 2, 29, 30, 31, 32, 7, 33, 10, 9, 34, 35, 36, 37, 38, 39, 40, 41, 42, 3, 13, 14, 15, 17, 43, 44, 45, 46, 47, 48, 49, 50, 51, 52, 53, 54, 55, 56, 57, 58, 59, 60, 61, 62, 63, 64, 65, 66, 67, 68, 69, 70, 71, 72, 73, 74, 75, 76, 77, 78, 11, 12, 79, 80, 81, 82, 83, 84, 85, 86, 87, 88, 89] (by decide +kernel) (by decide +kernel)
set_option maxRecDepth 20000 in
theorem gX7_readInto_X7_readWord : GoodIn wsX7_readInto (wsV RX7 33 RX7 yX7_readWord wsX7_readWord) := goodIn_app (goodIn_of _ (by decide +kernel)) ggX7_readInto_X7_readWord
theorem dX7_readInto_0 : decode cX7_readInto 0 = .ok (.aload_n 0, 1) := by decide +kernel
theorem dX7_readInto_1 : decode cX7_readInto 1 = .ok (.iconst 0, 1) := by decide +kernel
theorem dX7_readInto_2 : decode cX7_readInto 2 = .ok (.putfield 19, 3) := by decide +kernel
theorem dX7_readInto_5 : decode cX7_readInto 5 = .ok (.aload_n 0, 1) := by decide +kernel
theorem dX7_readInto_6 : decode cX7_readInto 6 = .ok (.iconst 0, 1) := by decide +kernel
theorem dX7_readInto_7 : decode cX7_readInto 7 = .ok (.putfield 22, 3) := by decide +kernel
theorem dX7_readInto_10 : decode cX7_readInto 10 = .ok (.aload_n 1, 1) := by decide +kernel
theorem dX7_readInto_11 : decode cX7_readInto 11 = .ok (.invokevirtual 25, 3) := by decide +kernel
theorem dX7_readInto_14 : decode cX7_readInto 14 = .ok (.aload_n 0, 1) := by decide +kernel
theorem dX7_readInto_15 : decode cX7_readInto 15 = .ok (.invokevirtual 30, 3) := by decide +kernel
theorem dX7_readInto_18 : decode cX7_readInto 18 = .ok (.iconst 0, 1) := by decide +kernel
theorem dX7_readInto_19 : decode cX7_readInto 19 = .ok (.istore_n 2, 1) := by decide +kernel
theorem dX7_readInto_20 : decode cX7_readInto 20 = .ok (.iload_n 2, 1) := by decide +kernel
theorem dX7_readInto_21 : decode cX7_readInto 21 = .ok (.aload_n 0, 1) := by decide +kernel
theorem dX7_readInto_22 : decode cX7_readInto 22 = .ok (.getfield 15, 3) := by decide +kernel
theorem dX7_readInto_25 : decode cX7_readInto 25 = .ok (.if_icmp .ge 36, 3) := by decide +kernel
theorem dX7_readInto_28 : decode cX7_readInto 28 = .ok (.aload_n 0, 1) := by decide +kernel
theorem dX7_readInto_29 : decode cX7_readInto 29 = .ok (.getfield 19, 3) := by decide +kernel
theorem dX7_readInto_32 : decode cX7_readInto 32 = .ok (.aload_n 0, 1) := by decide +kernel
theorem dX7_readInto_33 : decode cX7_readInto 33 = .ok (.getfield 15, 3) := by decide +kernel
theorem dX7_readInto_36 : decode cX7_readInto 36 = .ok (.if_icmp .ge 25, 3) := by decide +kernel
theorem dX7_readInto_39 : decode cX7_readInto 39 = .ok (.aload_n 0, 1) := by decide +kernel
theorem dX7_readInto_40 : decode cX7_readInto 40 = .ok (.getfield 22, 3) := by decide +kernel
theorem dX7_readInto_43 : decode cX7_readInto 43 = .ok (.ifCond .ne 18, 3) := by decide +kernel
theorem dX7_readInto_46 : decode cX7_readInto 46 = .ok (.aload_n 0, 1) := by decide +kernel
theorem dX7_readInto_47 : decode cX7_readInto 47 = .ok (.aload_n 1, 1) := by decide +kernel
theorem dX7_readInto_48 : decode cX7_readInto 48 = .ok (.invokevirtual 33, 3) := by decide +kernel
theorem dX7_readInto_51 : decode cX7_readInto 51 = .ok (.aload_n 0, 1) := by decide +kernel
theorem dX7_readInto_52 : decode cX7_readInto 52 = .ok (.invokevirtual 30, 3) := by decide +kernel
theorem dX7_readInto_55 : decode cX7_readInto 55 = .ok (.iinc 2 1, 3) := by decide +kernel
theorem dX7_readInto_58 : decode cX7_readInto 58 = .ok (.goto (-38), 3) := by decide +kernel
theorem dX7_readInto_61 : decode cX7_readInto 61 = .ok (.aload_n 0, 1) := by decide +kernel
theorem dX7_readInto_62 : decode cX7_readInto 62 = .ok (.getfield 22, 3) := by decide +kernel
theorem dX7_readInto_65 : decode cX7_readInto 65 = .ok (.ireturn, 1) := by decide +kernel
set_option maxRecDepth 20000 in
theorem ggX7_readWord_X7_readStep : GoodIn wsX7_readWord wsX7_readStep := goodIn_r _ [9, 2, 3, 10, 11, 12, 13, 14, 15, 16, 17, 18, 19, 20, 21, 8, 22, 23, 24, 25, 26, 27, 28, 1, 29, 30, 31, 32, 33, 34, 35, 36, 37, 38, 39, 40, 41, 42, 43, 44, 45, 46, 47, 48, 49, 50, 51, 52, 53, 54, 55, 56, 57, 58, 59, 60, 71, 72, 73, 74, 75, 76, 77, 78, 79, 80, 81] (by decide +kernel) (by decide +kernel)
set_option maxRecDepth 20000 in
theorem gX7_readWord_X7_readStep : GoodIn wsX7_readWord (wsV RX7 43 RX7 yX7_readStep wsX7_readStep) := goodIn_app (goodIn_of _ (by decide +kernel)) ggX7_readWord_X7_readStep
set_option maxRecDepth 20000 in
theorem ggX7_readWord_X7_readClause : GoodIn wsX7_readWord wsX7_readClause := goodIn_r _ [64, 4, 2, 11, 10, 19, 20, 21, 8, 22, 23, 24, 25, 26, 27, 28, 1, 29, 30, 31, 32, 33, 34, 35, 49, 50, 51, 52, 65, 66, 67, 15, 68, 17, 44, 69, 70, 18, 77, 78, 79, 80, 81, 71, 72, 73, 74, 75, 76] (by decide +kernel) (by decide +kernel)
set_option maxRecDepth 20000 in
theorem gX7_readWord_X7_readClause : GoodIn wsX7_readWord (wsV RX7 46 RX7 yX7_readClause wsX7_readClause) := goodIn_app (goodIn_of _ (by decide +kernel)) ggX7_readWord_X7_readClause
set_option maxRecDepth 20000 in
theorem ggX7_readWord_X7_blame : GoodIn wsX7_readWord wsX7_blame := goodIn_r _ [22, 10, 23, 71, 72, 73, 74, 75, 76] (by decide +kernel) (by decide +kernel)
set_option maxRecDepth 20000 in
theorem gX7_readWord_X7_blame : GoodIn wsX7_readWord (wsV RX7 50 RX7 yX7_blame wsX7_blame) := goodIn_app (goodIn_of _ (by decide +kernel)) ggX7_readWord_X7_blame
theorem dX7_readWord_0 : decode cX7_readWord 0 = .ok (.aload_n 0, 1) := by decide +kernel
theorem dX7_readWord_1 : decode cX7_readWord 1 = .ok (.getfield 11, 3) := by decide +kernel
theorem dX7_readWord_4 : decode cX7_readWord 4 = .ok (.aload_n 0, 1) := by decide +kernel
theorem dX7_readWord_5 : decode cX7_readWord 5 = .ok (.getfield 19, 3) := by decide +kernel
theorem dX7_readWord_8 : decode cX7_readWord 8 = .ok (.iaload, 1) := by decide +kernel
theorem dX7_readWord_9 : decode cX7_readWord 9 = .ok (.istore_n 2, 1) := by decide +kernel
theorem dX7_readWord_10 : decode cX7_readWord 10 = .ok (.aload_n 1, 1) := by decide +kernel
theorem dX7_readWord_11 : decode cX7_readWord 11 = .ok (.getfield 37, 3) := by decide +kernel
theorem dX7_readWord_14 : decode cX7_readWord 14 = .ok (.aload_n 1, 1) := by decide +kernel
theorem dX7_readWord_15 : decode cX7_readWord 15 = .ok (.getfield 40, 3) := by decide +kernel
theorem dX7_readWord_18 : decode cX7_readWord 18 = .ok (.if_icmp .ne 7, 3) := by decide +kernel
theorem dX7_readWord_21 : decode cX7_readWord 21 = .ok (.iconst 1, 1) := by decide +kernel
theorem dX7_readWord_22 : decode cX7_readWord 22 = .ok (.goto 4, 3) := by decide +kernel
theorem dX7_readWord_25 : decode cX7_readWord 25 = .ok (.iconst 0, 1) := by decide +kernel
theorem dX7_readWord_26 : decode cX7_readWord 26 = .ok (.istore_n 3, 1) := by decide +kernel
theorem dX7_readWord_27 : decode cX7_readWord 27 = .ok (.iload_n 2, 1) := by decide +kernel
theorem dX7_readWord_28 : decode cX7_readWord 28 = .ok (.bipush 114, 2) := by decide +kernel
theorem dX7_readWord_30 : decode cX7_readWord 30 = .ok (.if_icmp .ne 11, 3) := by decide +kernel
theorem dX7_readWord_33 : decode cX7_readWord 33 = .ok (.aload_n 0, 1) := by decide +kernel
theorem dX7_readWord_34 : decode cX7_readWord 34 = .ok (.aload_n 1, 1) := by decide +kernel
theorem dX7_readWord_35 : decode cX7_readWord 35 = .ok (.invokevirtual 43, 3) := by decide +kernel
theorem dX7_readWord_38 : decode cX7_readWord 38 = .ok (.goto 50, 3) := by decide +kernel
theorem dX7_readWord_41 : decode cX7_readWord 41 = .ok (.iload_n 2, 1) := by decide +kernel
theorem dX7_readWord_42 : decode cX7_readWord 42 = .ok (.bipush 97, 2) := by decide +kernel
theorem dX7_readWord_44 : decode cX7_readWord 44 = .ok (.if_icmp .ne 16, 3) := by decide +kernel
theorem dX7_readWord_47 : decode cX7_readWord 47 = .ok (.iload_n 3, 1) := by decide +kernel
theorem dX7_readWord_48 : decode cX7_readWord 48 = .ok (.ifCond .eq 12, 3) := by decide +kernel
theorem dX7_readWord_51 : decode cX7_readWord 51 = .ok (.aload_n 0, 1) := by decide +kernel
theorem dX7_readWord_52 : decode cX7_readWord 52 = .ok (.aload_n 1, 1) := by decide +kernel
theorem dX7_readWord_53 : decode cX7_readWord 53 = .ok (.iconst 0, 1) := by decide +kernel
theorem dX7_readWord_54 : decode cX7_readWord 54 = .ok (.invokevirtual 46, 3) := by decide +kernel
theorem dX7_readWord_57 : decode cX7_readWord 57 = .ok (.goto 31, 3) := by decide +kernel
theorem dX7_readWord_60 : decode cX7_readWord 60 = .ok (.iload_n 2, 1) := by decide +kernel
theorem dX7_readWord_61 : decode cX7_readWord 61 = .ok (.bipush 98, 2) := by decide +kernel
theorem dX7_readWord_63 : decode cX7_readWord 63 = .ok (.if_icmp .ne 16, 3) := by decide +kernel
theorem dX7_readWord_66 : decode cX7_readWord 66 = .ok (.iload_n 3, 1) := by decide +kernel
theorem dX7_readWord_67 : decode cX7_readWord 67 = .ok (.ifCond .eq 12, 3) := by decide +kernel
theorem dX7_readWord_70 : decode cX7_readWord 70 = .ok (.aload_n 0, 1) := by decide +kernel
theorem dX7_readWord_71 : decode cX7_readWord 71 = .ok (.aload_n 1, 1) := by decide +kernel
theorem dX7_readWord_72 : decode cX7_readWord 72 = .ok (.iconst 1, 1) := by decide +kernel
theorem dX7_readWord_73 : decode cX7_readWord 73 = .ok (.invokevirtual 46, 3) := by decide +kernel
theorem dX7_readWord_76 : decode cX7_readWord 76 = .ok (.goto 12, 3) := by decide +kernel
theorem dX7_readWord_79 : decode cX7_readWord 79 = .ok (.aload_n 0, 1) := by decide +kernel
theorem dX7_readWord_80 : decode cX7_readWord 80 = .ok (.iconst 1, 1) := by decide +kernel
theorem dX7_readWord_81 : decode cX7_readWord 81 = .ok (.aload_n 0, 1) := by decide +kernel
theorem dX7_readWord_82 : decode cX7_readWord 82 = .ok (.getfield 19, 3) := by decide +kernel
theorem dX7_readWord_85 : decode cX7_readWord 85 = .ok (.invokevirtual 50, 3) := by decide +kernel
theorem dX7_readWord_88 : decode cX7_readWord 88 = .ok (.return_, 1) := by decide +kernel
set_option maxRecDepth 20000 in
theorem ggX7_readClause_X7_blame : GoodIn wsX7_readClause wsX7_blame := goodIn_r _ [9, 4, 10, 43, 44, 45, 46, 47, 48] (by decide +kernel) (by decide +kernel)
set_option maxRecDepth 20000 in
theorem gX7_readClause_X7_blame : GoodIn wsX7_readClause (wsV RX7 50 RX7 yX7_blame wsX7_blame) := goodIn_app (goodIn_of _ (by decide +kernel)) ggX7_readClause_X7_blame
set_option maxRecDepth 20000 in
theorem ggX7_readClause_X7_readNumber : GoodIn wsX7_readClause wsX7_readNumber := goodIn_r _ [14, 4, 2, 3, 15, 16, 17, 18, 19, 8, 20, 21, 22, 23, 5, 6, 7, 9, 10, 43, 44, 45, 46, 47, 48] (by decide +kernel) (by decide +kernel)
set_option maxRecDepth 20000 in
theorem gX7_readClause_X7_readNumber : GoodIn wsX7_readClause (wsV RX7 54 RX7 yX7_readNumber wsX7_readNumber) := goodIn_app (goodIn_of _ (by decide +kernel)) ggX7_readClause_X7_readNumber
set_option maxRecDepth 20000 in
theorem ggX7_readClause_X7_readEnd : GoodIn wsX7_readClause wsX7_readEnd := goodIn_r _ [27, 4, 2, 15, 16, 17, 18, 19, 8, 20, 5, 6, 7, 9, 10, 43, 44, 45, 46, 47, 48] (by decide +kernel) (by decide +kernel)
set_option maxRecDepth 20000 in
theorem gX7_readClause_X7_readEnd : GoodIn wsX7_readClause (wsV RX7 61 RX7 yX7_readEnd wsX7_readEnd) := goodIn_app (goodIn_of _ (by decide +kernel)) ggX7_readClause_X7_readEnd
set_option maxRecDepth 20000 in
theorem ggX7_readClause_X5_addClause : GoodIn wsX7_readClause wsX5_addClause := goodIn_r _ [32, 33, 34, 35, 36, 37, 38, 39, 40, 41, 42] (by decide +kernel) (by decide +kernel)
set_option maxRecDepth 20000 in
theorem gX7_readClause_X5_addClause : GoodIn wsX7_readClause (wsV RX7 64 RX5 yX5_addClause wsX5_addClause) := goodIn_app (goodIn_of _ (by decide +kernel)) ggX7_readClause_X5_addClause
theorem dX7_readClause_0 : decode cX7_readClause 0 = .ok (.aload_n 1, 1) := by decide +kernel
theorem dX7_readClause_1 : decode cX7_readClause 1 = .ok (.getfield 40, 3) := by decide +kernel
theorem dX7_readClause_4 : decode cX7_readClause 4 = .ok (.bipush 10, 2) := by decide +kernel
theorem dX7_readClause_6 : decode cX7_readClause 6 = .ok (.if_icmp .lt 13, 3) := by decide +kernel
theorem dX7_readClause_9 : decode cX7_readClause 9 = .ok (.aload_n 0, 1) := by decide +kernel
theorem dX7_readClause_10 : decode cX7_readClause 10 = .ok (.iconst 3, 1) := by decide +kernel
theorem dX7_readClause_11 : decode cX7_readClause 11 = .ok (.aload_n 0, 1) := by decide +kernel
theorem dX7_readClause_12 : decode cX7_readClause 12 = .ok (.getfield 19, 3) := by decide +kernel
theorem dX7_readClause_15 : decode cX7_readClause 15 = .ok (.invokevirtual 50, 3) := by decide +kernel
theorem dX7_readClause_18 : decode cX7_readClause 18 = .ok (.return_, 1) := by decide +kernel
theorem dX7_readClause_19 : decode cX7_readClause 19 = .ok (.aload_n 0, 1) := by decide +kernel
theorem dX7_readClause_20 : decode cX7_readClause 20 = .ok (.dup, 1) := by decide +kernel
theorem dX7_readClause_21 : decode cX7_readClause 21 = .ok (.getfield 19, 3) := by decide +kernel
theorem dX7_readClause_24 : decode cX7_readClause 24 = .ok (.iconst 1, 1) := by decide +kernel
theorem dX7_readClause_25 : decode cX7_readClause 25 = .ok (.iadd, 1) := by decide +kernel
theorem dX7_readClause_26 : decode cX7_readClause 26 = .ok (.putfield 19, 3) := by decide +kernel
theorem dX7_readClause_29 : decode cX7_readClause 29 = .ok (.aload_n 0, 1) := by decide +kernel
theorem dX7_readClause_30 : decode cX7_readClause 30 = .ok (.sipush 255, 3) := by decide +kernel
theorem dX7_readClause_33 : decode cX7_readClause 33 = .ok (.invokevirtual 54, 3) := by decide +kernel
theorem dX7_readClause_36 : decode cX7_readClause 36 = .ok (.istore_n 3, 1) := by decide +kernel
theorem dX7_readClause_37 : decode cX7_readClause 37 = .ok (.aload_n 0, 1) := by decide +kernel
theorem dX7_readClause_38 : decode cX7_readClause 38 = .ok (.sipush 255, 3) := by decide +kernel
theorem dX7_readClause_41 : decode cX7_readClause 41 = .ok (.invokevirtual 54, 3) := by decide +kernel
theorem dX7_readClause_44 : decode cX7_readClause 44 = .ok (.istore 4, 2) := by decide +kernel
theorem dX7_readClause_46 : decode cX7_readClause 46 = .ok (.iload_n 3, 1) := by decide +kernel
theorem dX7_readClause_47 : decode cX7_readClause 47 = .ok (.iload 4, 2) := by decide +kernel
theorem dX7_readClause_49 : decode cX7_readClause 49 = .ok (.iand, 1) := by decide +kernel
theorem dX7_readClause_50 : decode cX7_readClause 50 = .ok (.ifCond .eq 12, 3) := by decide +kernel
theorem dX7_readClause_53 : decode cX7_readClause 53 = .ok (.aload_n 0, 1) := by decide +kernel
theorem dX7_readClause_54 : decode cX7_readClause 54 = .ok (.iconst 4, 1) := by decide +kernel
theorem dX7_readClause_55 : decode cX7_readClause 55 = .ok (.aload_n 0, 1) := by decide +kernel
theorem dX7_readClause_56 : decode cX7_readClause 56 = .ok (.getfield 58, 3) := by decide +kernel
theorem dX7_readClause_59 : decode cX7_readClause 59 = .ok (.invokevirtual 50, 3) := by decide +kernel
theorem dX7_readClause_62 : decode cX7_readClause 62 = .ok (.aload_n 0, 1) := by decide +kernel
theorem dX7_readClause_63 : decode cX7_readClause 63 = .ok (.invokevirtual 61, 3) := by decide +kernel
theorem dX7_readClause_66 : decode cX7_readClause 66 = .ok (.aload_n 0, 1) := by decide +kernel
theorem dX7_readClause_67 : decode cX7_readClause 67 = .ok (.getfield 22, 3) := by decide +kernel
theorem dX7_readClause_70 : decode cX7_readClause 70 = .ok (.ifCond .ne 11, 3) := by decide +kernel
theorem dX7_readClause_73 : decode cX7_readClause 73 = .ok (.aload_n 1, 1) := by decide +kernel
theorem dX7_readClause_74 : decode cX7_readClause 74 = .ok (.iload_n 2, 1) := by decide +kernel
theorem dX7_readClause_75 : decode cX7_readClause 75 = .ok (.iload_n 3, 1) := by decide +kernel
theorem dX7_readClause_76 : decode cX7_readClause 76 = .ok (.iload 4, 2) := by decide +kernel
theorem dX7_readClause_78 : decode cX7_readClause 78 = .ok (.invokevirtual 64, 3) := by decide +kernel
theorem dX7_readClause_81 : decode cX7_readClause 81 = .ok (.return_, 1) := by decide +kernel
set_option maxRecDepth 20000 in
theorem ggX7_readStep_X5_noneMoreFits : GoodIn wsX7_readStep wsX5_noneMoreFits := goodIn_r _ [9, 10, 11, 62, 63, 64, 65, 66] (by decide +kernel) (by decide +kernel)
set_option maxRecDepth 20000 in
theorem gX7_readStep_X5_noneMoreFits : GoodIn wsX7_readStep (wsV RX7 68 RX5 yX5_noneMoreFits wsX5_noneMoreFits) := goodIn_app (goodIn_of _ (by decide +kernel)) ggX7_readStep_X5_noneMoreFits
set_option maxRecDepth 20000 in
theorem ggX7_readStep_X7_blame : GoodIn wsX7_readStep wsX7_blame := goodIn_r _ [16, 3, 17, 56, 57, 58, 59, 60, 61] (by decide +kernel) (by decide +kernel)
set_option maxRecDepth 20000 in
theorem gX7_readStep_X7_blame : GoodIn wsX7_readStep (wsV RX7 50 RX7 yX7_blame wsX7_blame) := goodIn_app (goodIn_of _ (by decide +kernel)) ggX7_readStep_X7_blame
set_option maxRecDepth 20000 in
theorem ggX7_readStep_X7_readNumber : GoodIn wsX7_readStep wsX7_readNumber := goodIn_r _ [21, 3, 1, 4, 22, 23, 24, 25, 26, 15, 27, 28, 29, 30, 12, 13, 14, 16, 17, 56, 57, 58, 59, 60, 61] (by decide +kernel) (by decide +kernel)
set_option maxRecDepth 20000 in
theorem gX7_readStep_X7_readNumber : GoodIn wsX7_readStep (wsV RX7 54 RX7 yX7_readNumber wsX7_readNumber) := goodIn_app (goodIn_of _ (by decide +kernel)) ggX7_readStep_X7_readNumber
set_option maxRecDepth 20000 in
theorem ggX7_readStep_X5_canMake : GoodIn wsX7_readStep wsX5_canMake := goodIn_r _ [34, 35, 36, 37, 8, 38, 39, 40, 41, 42, 43, 62, 63, 64, 65, 66] (by decide +kernel) (by decide +kernel)
set_option maxRecDepth 20000 in
theorem gX7_readStep_X5_canMake : GoodIn wsX7_readStep (wsV RX7 72 RX5 yX5_canMake wsX5_canMake) := goodIn_app (goodIn_of _ (by decide +kernel)) ggX7_readStep_X5_canMake
set_option maxRecDepth 20000 in
theorem ggX7_readStep_X7_readEnd : GoodIn wsX7_readStep wsX7_readEnd := goodIn_r _ [47, 3, 1, 22, 23, 24, 25, 26, 15, 27, 12, 13, 14, 16, 17, 56, 57, 58, 59, 60, 61] (by decide +kernel) (by decide +kernel)
set_option maxRecDepth 20000 in
theorem gX7_readStep_X7_readEnd : GoodIn wsX7_readStep (wsV RX7 61 RX7 yX7_readEnd wsX7_readEnd) := goodIn_app (goodIn_of _ (by decide +kernel)) ggX7_readStep_X7_readEnd
set_option maxRecDepth 20000 in
theorem ggX7_readStep_X5_make : GoodIn wsX7_readStep wsX5_make := goodIn_r _ [51, 10, 39, 52, 53, 54, 55, 40, 41, 42, 8, 43, 35, 36, 37, 38, 62, 63, 64, 65, 66] (by decide +kernel) (by decide +kernel)
set_option maxRecDepth 20000 in
theorem gX7_readStep_X5_make : GoodIn wsX7_readStep (wsV RX7 76 RX5 yX5_make wsX5_make) := goodIn_app (goodIn_of _ (by decide +kernel)) ggX7_readStep_X5_make
theorem dX7_readStep_0 : decode cX7_readStep 0 = .ok (.aload_n 1, 1) := by decide +kernel
theorem dX7_readStep_1 : decode cX7_readStep 1 = .ok (.invokevirtual 68, 3) := by decide +kernel
theorem dX7_readStep_4 : decode cX7_readStep 4 = .ok (.ifCond .eq 13, 3) := by decide +kernel
theorem dX7_readStep_7 : decode cX7_readStep 7 = .ok (.aload_n 0, 1) := by decide +kernel
theorem dX7_readStep_8 : decode cX7_readStep 8 = .ok (.iconst 3, 1) := by decide +kernel
theorem dX7_readStep_9 : decode cX7_readStep 9 = .ok (.aload_n 0, 1) := by decide +kernel
theorem dX7_readStep_10 : decode cX7_readStep 10 = .ok (.getfield 19, 3) := by decide +kernel
theorem dX7_readStep_13 : decode cX7_readStep 13 = .ok (.invokevirtual 50, 3) := by decide +kernel
theorem dX7_readStep_16 : decode cX7_readStep 16 = .ok (.return_, 1) := by decide +kernel
theorem dX7_readStep_17 : decode cX7_readStep 17 = .ok (.aload_n 0, 1) := by decide +kernel
theorem dX7_readStep_18 : decode cX7_readStep 18 = .ok (.dup, 1) := by decide +kernel
theorem dX7_readStep_19 : decode cX7_readStep 19 = .ok (.getfield 19, 3) := by decide +kernel
theorem dX7_readStep_22 : decode cX7_readStep 22 = .ok (.iconst 1, 1) := by decide +kernel
theorem dX7_readStep_23 : decode cX7_readStep 23 = .ok (.iadd, 1) := by decide +kernel
theorem dX7_readStep_24 : decode cX7_readStep 24 = .ok (.putfield 19, 3) := by decide +kernel
theorem dX7_readStep_27 : decode cX7_readStep 27 = .ok (.aload_n 0, 1) := by decide +kernel
theorem dX7_readStep_28 : decode cX7_readStep 28 = .ok (.aload_n 1, 1) := by decide +kernel
theorem dX7_readStep_29 : decode cX7_readStep 29 = .ok (.getfield 37, 3) := by decide +kernel
theorem dX7_readStep_32 : decode cX7_readStep 32 = .ok (.iconst 1, 1) := by decide +kernel
theorem dX7_readStep_33 : decode cX7_readStep 33 = .ok (.isub, 1) := by decide +kernel
theorem dX7_readStep_34 : decode cX7_readStep 34 = .ok (.invokevirtual 54, 3) := by decide +kernel
theorem dX7_readStep_37 : decode cX7_readStep 37 = .ok (.istore_n 2, 1) := by decide +kernel
theorem dX7_readStep_38 : decode cX7_readStep 38 = .ok (.aload_n 0, 1) := by decide +kernel
theorem dX7_readStep_39 : decode cX7_readStep 39 = .ok (.aload_n 1, 1) := by decide +kernel
theorem dX7_readStep_40 : decode cX7_readStep 40 = .ok (.getfield 37, 3) := by decide +kernel
theorem dX7_readStep_43 : decode cX7_readStep 43 = .ok (.iconst 1, 1) := by decide +kernel
theorem dX7_readStep_44 : decode cX7_readStep 44 = .ok (.isub, 1) := by decide +kernel
theorem dX7_readStep_45 : decode cX7_readStep 45 = .ok (.invokevirtual 54, 3) := by decide +kernel
theorem dX7_readStep_48 : decode cX7_readStep 48 = .ok (.istore_n 3, 1) := by decide +kernel
theorem dX7_readStep_49 : decode cX7_readStep 49 = .ok (.aload_n 0, 1) := by decide +kernel
theorem dX7_readStep_50 : decode cX7_readStep 50 = .ok (.bipush 7, 2) := by decide +kernel
theorem dX7_readStep_52 : decode cX7_readStep 52 = .ok (.invokevirtual 54, 3) := by decide +kernel
theorem dX7_readStep_55 : decode cX7_readStep 55 = .ok (.istore 4, 2) := by decide +kernel
theorem dX7_readStep_57 : decode cX7_readStep 57 = .ok (.aload_n 0, 1) := by decide +kernel
theorem dX7_readStep_58 : decode cX7_readStep 58 = .ok (.getfield 22, 3) := by decide +kernel
theorem dX7_readStep_61 : decode cX7_readStep 61 = .ok (.ifCond .ne 23, 3) := by decide +kernel
theorem dX7_readStep_64 : decode cX7_readStep 64 = .ok (.aload_n 1, 1) := by decide +kernel
theorem dX7_readStep_65 : decode cX7_readStep 65 = .ok (.iload_n 2, 1) := by decide +kernel
theorem dX7_readStep_66 : decode cX7_readStep 66 = .ok (.iload_n 3, 1) := by decide +kernel
theorem dX7_readStep_67 : decode cX7_readStep 67 = .ok (.iload 4, 2) := by decide +kernel
theorem dX7_readStep_69 : decode cX7_readStep 69 = .ok (.invokevirtual 72, 3) := by decide +kernel
theorem dX7_readStep_72 : decode cX7_readStep 72 = .ok (.ifCond .ne 12, 3) := by decide +kernel
theorem dX7_readStep_75 : decode cX7_readStep 75 = .ok (.aload_n 0, 1) := by decide +kernel
theorem dX7_readStep_76 : decode cX7_readStep 76 = .ok (.iconst 4, 1) := by decide +kernel
theorem dX7_readStep_77 : decode cX7_readStep 77 = .ok (.aload_n 0, 1) := by decide +kernel
theorem dX7_readStep_78 : decode cX7_readStep 78 = .ok (.getfield 58, 3) := by decide +kernel
theorem dX7_readStep_81 : decode cX7_readStep 81 = .ok (.invokevirtual 50, 3) := by decide +kernel
theorem dX7_readStep_84 : decode cX7_readStep 84 = .ok (.aload_n 0, 1) := by decide +kernel
theorem dX7_readStep_85 : decode cX7_readStep 85 = .ok (.invokevirtual 61, 3) := by decide +kernel
theorem dX7_readStep_88 : decode cX7_readStep 88 = .ok (.aload_n 0, 1) := by decide +kernel
theorem dX7_readStep_89 : decode cX7_readStep 89 = .ok (.getfield 22, 3) := by decide +kernel
theorem dX7_readStep_92 : decode cX7_readStep 92 = .ok (.ifCond .ne 12, 3) := by decide +kernel
theorem dX7_readStep_95 : decode cX7_readStep 95 = .ok (.aload_n 1, 1) := by decide +kernel
theorem dX7_readStep_96 : decode cX7_readStep 96 = .ok (.iload_n 2, 1) := by decide +kernel
theorem dX7_readStep_97 : decode cX7_readStep 97 = .ok (.iload_n 3, 1) := by decide +kernel
theorem dX7_readStep_98 : decode cX7_readStep 98 = .ok (.iload 4, 2) := by decide +kernel
theorem dX7_readStep_100 : decode cX7_readStep 100 = .ok (.invokevirtual 76, 3) := by decide +kernel
theorem dX7_readStep_103 : decode cX7_readStep 103 = .ok (.pop, 1) := by decide +kernel
theorem dX7_readStep_104 : decode cX7_readStep 104 = .ok (.return_, 1) := by decide +kernel
set_option maxRecDepth 20000 in
theorem ggX7_readNumber_X7_skipBlanks : GoodIn wsX7_readNumber wsX7_skipBlanks := goodIn_r _ [10, 2, 4, 5, 19, 20, 21, 22, 23, 24] (by decide +kernel) (by decide +kernel)
set_option maxRecDepth 20000 in
theorem gX7_readNumber_X7_skipBlanks : GoodIn wsX7_readNumber (wsV RX7 30 RX7 yX7_skipBlanks wsX7_skipBlanks) := goodIn_app (goodIn_of _ (by decide +kernel)) ggX7_readNumber_X7_skipBlanks
set_option maxRecDepth 20000 in
theorem ggX7_readNumber_X7_isFigure : GoodIn wsX7_readNumber wsX7_isFigure := goodIn_r _ [13] (by decide +kernel) (by decide +kernel)
set_option maxRecDepth 20000 in
theorem gX7_readNumber_X7_isFigure : GoodIn wsX7_readNumber (va_wsS RX7 80 yX7_isFigure wsX7_isFigure) := goodIn_app (goodIn_of _ (by decide +kernel)) ggX7_readNumber_X7_isFigure
set_option maxRecDepth 20000 in
theorem ggX7_readNumber_X7_blame : GoodIn wsX7_readNumber wsX7_blame := goodIn_r _ [17, 1, 18, 19, 20, 21, 22, 23, 24] (by decide +kernel) (by decide +kernel)
set_option maxRecDepth 20000 in
theorem gX7_readNumber_X7_blame : GoodIn wsX7_readNumber (wsV RX7 50 RX7 yX7_blame wsX7_blame) := goodIn_app (goodIn_of _ (by decide +kernel)) ggX7_readNumber_X7_blame
theorem dX7_readNumber_0 : decode cX7_readNumber 0 = .ok (.aload_n 0, 1) := by decide +kernel
theorem dX7_readNumber_1 : decode cX7_readNumber 1 = .ok (.getfield 22, 3) := by decide +kernel
theorem dX7_readNumber_4 : decode cX7_readNumber 4 = .ok (.ifCond .eq 5, 3) := by decide +kernel
theorem dX7_readNumber_7 : decode cX7_readNumber 7 = .ok (.iconst 0, 1) := by decide +kernel
theorem dX7_readNumber_8 : decode cX7_readNumber 8 = .ok (.ireturn, 1) := by decide +kernel
theorem dX7_readNumber_9 : decode cX7_readNumber 9 = .ok (.aload_n 0, 1) := by decide +kernel
theorem dX7_readNumber_10 : decode cX7_readNumber 10 = .ok (.invokevirtual 30, 3) := by decide +kernel
theorem dX7_readNumber_13 : decode cX7_readNumber 13 = .ok (.aload_n 0, 1) := by decide +kernel
theorem dX7_readNumber_14 : decode cX7_readNumber 14 = .ok (.aload_n 0, 1) := by decide +kernel
theorem dX7_readNumber_15 : decode cX7_readNumber 15 = .ok (.getfield 19, 3) := by decide +kernel
theorem dX7_readNumber_18 : decode cX7_readNumber 18 = .ok (.putfield 58, 3) := by decide +kernel
theorem dX7_readNumber_21 : decode cX7_readNumber 21 = .ok (.iconst 0, 1) := by decide +kernel
theorem dX7_readNumber_22 : decode cX7_readNumber 22 = .ok (.istore_n 2, 1) := by decide +kernel
theorem dX7_readNumber_23 : decode cX7_readNumber 23 = .ok (.aload_n 0, 1) := by decide +kernel
theorem dX7_readNumber_24 : decode cX7_readNumber 24 = .ok (.getfield 19, 3) := by decide +kernel
theorem dX7_readNumber_27 : decode cX7_readNumber 27 = .ok (.aload_n 0, 1) := by decide +kernel
theorem dX7_readNumber_28 : decode cX7_readNumber 28 = .ok (.getfield 15, 3) := by decide +kernel
theorem dX7_readNumber_31 : decode cX7_readNumber 31 = .ok (.if_icmp .ge 62, 3) := by decide +kernel
theorem dX7_readNumber_34 : decode cX7_readNumber 34 = .ok (.aload_n 0, 1) := by decide +kernel
theorem dX7_readNumber_35 : decode cX7_readNumber 35 = .ok (.getfield 11, 3) := by decide +kernel
theorem dX7_readNumber_38 : decode cX7_readNumber 38 = .ok (.aload_n 0, 1) := by decide +kernel
theorem dX7_readNumber_39 : decode cX7_readNumber 39 = .ok (.getfield 19, 3) := by decide +kernel
theorem dX7_readNumber_42 : decode cX7_readNumber 42 = .ok (.iaload, 1) := by decide +kernel
theorem dX7_readNumber_43 : decode cX7_readNumber 43 = .ok (.invokestatic 80, 3) := by decide +kernel
theorem dX7_readNumber_46 : decode cX7_readNumber 46 = .ok (.ifCond .eq 47, 3) := by decide +kernel
theorem dX7_readNumber_49 : decode cX7_readNumber 49 = .ok (.aload_n 0, 1) := by decide +kernel
theorem dX7_readNumber_50 : decode cX7_readNumber 50 = .ok (.getfield 19, 3) := by decide +kernel
theorem dX7_readNumber_53 : decode cX7_readNumber 53 = .ok (.aload_n 0, 1) := by decide +kernel
theorem dX7_readNumber_54 : decode cX7_readNumber 54 = .ok (.getfield 58, 3) := by decide +kernel
theorem dX7_readNumber_57 : decode cX7_readNumber 57 = .ok (.isub, 1) := by decide +kernel
theorem dX7_readNumber_58 : decode cX7_readNumber 58 = .ok (.iconst 3, 1) := by decide +kernel
theorem dX7_readNumber_59 : decode cX7_readNumber 59 = .ok (.if_icmp .ge 21, 3) := by decide +kernel
theorem dX7_readNumber_62 : decode cX7_readNumber 62 = .ok (.iload_n 2, 1) := by decide +kernel
theorem dX7_readNumber_63 : decode cX7_readNumber 63 = .ok (.bipush 10, 2) := by decide +kernel
theorem dX7_readNumber_65 : decode cX7_readNumber 65 = .ok (.imul, 1) := by decide +kernel
theorem dX7_readNumber_66 : decode cX7_readNumber 66 = .ok (.aload_n 0, 1) := by decide +kernel
theorem dX7_readNumber_67 : decode cX7_readNumber 67 = .ok (.getfield 11, 3) := by decide +kernel
theorem dX7_readNumber_70 : decode cX7_readNumber 70 = .ok (.aload_n 0, 1) := by decide +kernel
theorem dX7_readNumber_71 : decode cX7_readNumber 71 = .ok (.getfield 19, 3) := by decide +kernel
theorem dX7_readNumber_74 : decode cX7_readNumber 74 = .ok (.iaload, 1) := by decide +kernel
theorem dX7_readNumber_75 : decode cX7_readNumber 75 = .ok (.iadd, 1) := by decide +kernel
theorem dX7_readNumber_76 : decode cX7_readNumber 76 = .ok (.bipush 48, 2) := by decide +kernel
theorem dX7_readNumber_78 : decode cX7_readNumber 78 = .ok (.isub, 1) := by decide +kernel
theorem dX7_readNumber_79 : decode cX7_readNumber 79 = .ok (.istore_n 2, 1) := by decide +kernel
theorem dX7_readNumber_80 : decode cX7_readNumber 80 = .ok (.aload_n 0, 1) := by decide +kernel
theorem dX7_readNumber_81 : decode cX7_readNumber 81 = .ok (.dup, 1) := by decide +kernel
theorem dX7_readNumber_82 : decode cX7_readNumber 82 = .ok (.getfield 19, 3) := by decide +kernel
theorem dX7_readNumber_85 : decode cX7_readNumber 85 = .ok (.iconst 1, 1) := by decide +kernel
theorem dX7_readNumber_86 : decode cX7_readNumber 86 = .ok (.iadd, 1) := by decide +kernel
theorem dX7_readNumber_87 : decode cX7_readNumber 87 = .ok (.putfield 19, 3) := by decide +kernel
theorem dX7_readNumber_90 : decode cX7_readNumber 90 = .ok (.goto (-67), 3) := by decide +kernel
theorem dX7_readNumber_93 : decode cX7_readNumber 93 = .ok (.aload_n 0, 1) := by decide +kernel
theorem dX7_readNumber_94 : decode cX7_readNumber 94 = .ok (.getfield 19, 3) := by decide +kernel
theorem dX7_readNumber_97 : decode cX7_readNumber 97 = .ok (.aload_n 0, 1) := by decide +kernel
theorem dX7_readNumber_98 : decode cX7_readNumber 98 = .ok (.getfield 58, 3) := by decide +kernel
theorem dX7_readNumber_101 : decode cX7_readNumber 101 = .ok (.isub, 1) := by decide +kernel
theorem dX7_readNumber_102 : decode cX7_readNumber 102 = .ok (.istore_n 3, 1) := by decide +kernel
theorem dX7_readNumber_103 : decode cX7_readNumber 103 = .ok (.iload_n 3, 1) := by decide +kernel
theorem dX7_readNumber_104 : decode cX7_readNumber 104 = .ok (.ifCond .ne 15, 3) := by decide +kernel
theorem dX7_readNumber_107 : decode cX7_readNumber 107 = .ok (.aload_n 0, 1) := by decide +kernel
theorem dX7_readNumber_108 : decode cX7_readNumber 108 = .ok (.iconst 1, 1) := by decide +kernel
theorem dX7_readNumber_109 : decode cX7_readNumber 109 = .ok (.aload_n 0, 1) := by decide +kernel
theorem dX7_readNumber_110 : decode cX7_readNumber 110 = .ok (.getfield 19, 3) := by decide +kernel
theorem dX7_readNumber_113 : decode cX7_readNumber 113 = .ok (.invokevirtual 50, 3) := by decide +kernel
theorem dX7_readNumber_116 : decode cX7_readNumber 116 = .ok (.goto 22, 3) := by decide +kernel
theorem dX7_readNumber_119 : decode cX7_readNumber 119 = .ok (.iload_n 3, 1) := by decide +kernel
theorem dX7_readNumber_120 : decode cX7_readNumber 120 = .ok (.iconst 3, 1) := by decide +kernel
theorem dX7_readNumber_121 : decode cX7_readNumber 121 = .ok (.if_icmp .gt 8, 3) := by decide +kernel
theorem dX7_readNumber_124 : decode cX7_readNumber 124 = .ok (.iload_n 2, 1) := by decide +kernel
theorem dX7_readNumber_125 : decode cX7_readNumber 125 = .ok (.iload_n 1, 1) := by decide +kernel
theorem dX7_readNumber_126 : decode cX7_readNumber 126 = .ok (.if_icmp .le 12, 3) := by decide +kernel
theorem dX7_readNumber_129 : decode cX7_readNumber 129 = .ok (.aload_n 0, 1) := by decide +kernel
theorem dX7_readNumber_130 : decode cX7_readNumber 130 = .ok (.iconst 2, 1) := by decide +kernel
theorem dX7_readNumber_131 : decode cX7_readNumber 131 = .ok (.aload_n 0, 1) := by decide +kernel
theorem dX7_readNumber_132 : decode cX7_readNumber 132 = .ok (.getfield 58, 3) := by decide +kernel
theorem dX7_readNumber_135 : decode cX7_readNumber 135 = .ok (.invokevirtual 50, 3) := by decide +kernel
theorem dX7_readNumber_138 : decode cX7_readNumber 138 = .ok (.aload_n 0, 1) := by decide +kernel
theorem dX7_readNumber_139 : decode cX7_readNumber 139 = .ok (.getfield 22, 3) := by decide +kernel
theorem dX7_readNumber_142 : decode cX7_readNumber 142 = .ok (.ifCond .ne 7, 3) := by decide +kernel
theorem dX7_readNumber_145 : decode cX7_readNumber 145 = .ok (.iload_n 2, 1) := by decide +kernel
theorem dX7_readNumber_146 : decode cX7_readNumber 146 = .ok (.goto 4, 3) := by decide +kernel
theorem dX7_readNumber_149 : decode cX7_readNumber 149 = .ok (.iconst 0, 1) := by decide +kernel
theorem dX7_readNumber_150 : decode cX7_readNumber 150 = .ok (.ireturn, 1) := by decide +kernel
set_option maxRecDepth 20000 in
theorem ggX7_readEnd_X7_skipBlanks : GoodIn wsX7_readEnd wsX7_skipBlanks := goodIn_r _ [9, 2, 3, 4, 15, 16, 17, 18, 19, 20] (by decide +kernel) (by decide +kernel)
set_option maxRecDepth 20000 in
theorem gX7_readEnd_X7_skipBlanks : GoodIn wsX7_readEnd (wsV RX7 30 RX7 yX7_skipBlanks wsX7_skipBlanks) := goodIn_app (goodIn_of _ (by decide +kernel)) ggX7_readEnd_X7_skipBlanks
set_option maxRecDepth 20000 in
theorem ggX7_readEnd_X7_blame : GoodIn wsX7_readEnd wsX7_blame := goodIn_r _ [13, 1, 14, 15, 16, 17, 18, 19, 20] (by decide +kernel) (by decide +kernel)
set_option maxRecDepth 20000 in
theorem gX7_readEnd_X7_blame : GoodIn wsX7_readEnd (wsV RX7 50 RX7 yX7_blame wsX7_blame) := goodIn_app (goodIn_of _ (by decide +kernel)) ggX7_readEnd_X7_blame
theorem dX7_readEnd_0 : decode cX7_readEnd 0 = .ok (.aload_n 0, 1) := by decide +kernel
theorem dX7_readEnd_1 : decode cX7_readEnd 1 = .ok (.getfield 22, 3) := by decide +kernel
theorem dX7_readEnd_4 : decode cX7_readEnd 4 = .ok (.ifCond .eq 4, 3) := by decide +kernel
theorem dX7_readEnd_7 : decode cX7_readEnd 7 = .ok (.return_, 1) := by decide +kernel
theorem dX7_readEnd_8 : decode cX7_readEnd 8 = .ok (.aload_n 0, 1) := by decide +kernel
theorem dX7_readEnd_9 : decode cX7_readEnd 9 = .ok (.invokevirtual 30, 3) := by decide +kernel
theorem dX7_readEnd_12 : decode cX7_readEnd 12 = .ok (.aload_n 0, 1) := by decide +kernel
theorem dX7_readEnd_13 : decode cX7_readEnd 13 = .ok (.getfield 19, 3) := by decide +kernel
theorem dX7_readEnd_16 : decode cX7_readEnd 16 = .ok (.aload_n 0, 1) := by decide +kernel
theorem dX7_readEnd_17 : decode cX7_readEnd 17 = .ok (.getfield 15, 3) := by decide +kernel
theorem dX7_readEnd_20 : decode cX7_readEnd 20 = .ok (.if_icmp .ge 30, 3) := by decide +kernel
theorem dX7_readEnd_23 : decode cX7_readEnd 23 = .ok (.aload_n 0, 1) := by decide +kernel
theorem dX7_readEnd_24 : decode cX7_readEnd 24 = .ok (.getfield 11, 3) := by decide +kernel
theorem dX7_readEnd_27 : decode cX7_readEnd 27 = .ok (.aload_n 0, 1) := by decide +kernel
theorem dX7_readEnd_28 : decode cX7_readEnd 28 = .ok (.getfield 19, 3) := by decide +kernel
theorem dX7_readEnd_31 : decode cX7_readEnd 31 = .ok (.iaload, 1) := by decide +kernel
theorem dX7_readEnd_32 : decode cX7_readEnd 32 = .ok (.bipush 59, 2) := by decide +kernel
theorem dX7_readEnd_34 : decode cX7_readEnd 34 = .ok (.if_icmp .ne 16, 3) := by decide +kernel
theorem dX7_readEnd_37 : decode cX7_readEnd 37 = .ok (.aload_n 0, 1) := by decide +kernel
theorem dX7_readEnd_38 : decode cX7_readEnd 38 = .ok (.dup, 1) := by decide +kernel
theorem dX7_readEnd_39 : decode cX7_readEnd 39 = .ok (.getfield 19, 3) := by decide +kernel
theorem dX7_readEnd_42 : decode cX7_readEnd 42 = .ok (.iconst 1, 1) := by decide +kernel
theorem dX7_readEnd_43 : decode cX7_readEnd 43 = .ok (.iadd, 1) := by decide +kernel
theorem dX7_readEnd_44 : decode cX7_readEnd 44 = .ok (.putfield 19, 3) := by decide +kernel
theorem dX7_readEnd_47 : decode cX7_readEnd 47 = .ok (.goto 12, 3) := by decide +kernel
theorem dX7_readEnd_50 : decode cX7_readEnd 50 = .ok (.aload_n 0, 1) := by decide +kernel
theorem dX7_readEnd_51 : decode cX7_readEnd 51 = .ok (.iconst 1, 1) := by decide +kernel
theorem dX7_readEnd_52 : decode cX7_readEnd 52 = .ok (.aload_n 0, 1) := by decide +kernel
theorem dX7_readEnd_53 : decode cX7_readEnd 53 = .ok (.getfield 19, 3) := by decide +kernel
theorem dX7_readEnd_56 : decode cX7_readEnd 56 = .ok (.invokevirtual 50, 3) := by decide +kernel
theorem dX7_readEnd_59 : decode cX7_readEnd 59 = .ok (.return_, 1) := by decide +kernel
theorem dX7_skipBlanks_0 : decode cX7_skipBlanks 0 = .ok (.aload_n 0, 1) := by decide +kernel
theorem dX7_skipBlanks_1 : decode cX7_skipBlanks 1 = .ok (.getfield 19, 3) := by decide +kernel
theorem dX7_skipBlanks_4 : decode cX7_skipBlanks 4 = .ok (.aload_n 0, 1) := by decide +kernel
theorem dX7_skipBlanks_5 : decode cX7_skipBlanks 5 = .ok (.getfield 15, 3) := by decide +kernel
theorem dX7_skipBlanks_8 : decode cX7_skipBlanks 8 = .ok (.if_icmp .ge 30, 3) := by decide +kernel
theorem dX7_skipBlanks_11 : decode cX7_skipBlanks 11 = .ok (.aload_n 0, 1) := by decide +kernel
theorem dX7_skipBlanks_12 : decode cX7_skipBlanks 12 = .ok (.getfield 11, 3) := by decide +kernel
theorem dX7_skipBlanks_15 : decode cX7_skipBlanks 15 = .ok (.aload_n 0, 1) := by decide +kernel
theorem dX7_skipBlanks_16 : decode cX7_skipBlanks 16 = .ok (.getfield 19, 3) := by decide +kernel
theorem dX7_skipBlanks_19 : decode cX7_skipBlanks 19 = .ok (.iaload, 1) := by decide +kernel
theorem dX7_skipBlanks_20 : decode cX7_skipBlanks 20 = .ok (.bipush 32, 2) := by decide +kernel
theorem dX7_skipBlanks_22 : decode cX7_skipBlanks 22 = .ok (.if_icmp .ne 16, 3) := by decide +kernel
theorem dX7_skipBlanks_25 : decode cX7_skipBlanks 25 = .ok (.aload_n 0, 1) := by decide +kernel
theorem dX7_skipBlanks_26 : decode cX7_skipBlanks 26 = .ok (.dup, 1) := by decide +kernel
theorem dX7_skipBlanks_27 : decode cX7_skipBlanks 27 = .ok (.getfield 19, 3) := by decide +kernel
theorem dX7_skipBlanks_30 : decode cX7_skipBlanks 30 = .ok (.iconst 1, 1) := by decide +kernel
theorem dX7_skipBlanks_31 : decode cX7_skipBlanks 31 = .ok (.iadd, 1) := by decide +kernel
theorem dX7_skipBlanks_32 : decode cX7_skipBlanks 32 = .ok (.putfield 19, 3) := by decide +kernel
theorem dX7_skipBlanks_35 : decode cX7_skipBlanks 35 = .ok (.goto (-35), 3) := by decide +kernel
theorem dX7_skipBlanks_38 : decode cX7_skipBlanks 38 = .ok (.return_, 1) := by decide +kernel
theorem dX7_blame_0 : decode cX7_blame 0 = .ok (.aload_n 0, 1) := by decide +kernel
theorem dX7_blame_1 : decode cX7_blame 1 = .ok (.iload_n 1, 1) := by decide +kernel
theorem dX7_blame_2 : decode cX7_blame 2 = .ok (.putfield 22, 3) := by decide +kernel
theorem dX7_blame_5 : decode cX7_blame 5 = .ok (.aload_n 0, 1) := by decide +kernel
theorem dX7_blame_6 : decode cX7_blame 6 = .ok (.iload_n 2, 1) := by decide +kernel
theorem dX7_blame_7 : decode cX7_blame 7 = .ok (.putfield 84, 3) := by decide +kernel
theorem dX7_blame_10 : decode cX7_blame 10 = .ok (.return_, 1) := by decide +kernel
theorem dX7_isFigure_0 : decode cX7_isFigure 0 = .ok (.iload_n 0, 1) := by decide +kernel
theorem dX7_isFigure_1 : decode cX7_isFigure 1 = .ok (.bipush 48, 2) := by decide +kernel
theorem dX7_isFigure_3 : decode cX7_isFigure 3 = .ok (.if_icmp .lt 13, 3) := by decide +kernel
theorem dX7_isFigure_6 : decode cX7_isFigure 6 = .ok (.iload_n 0, 1) := by decide +kernel
theorem dX7_isFigure_7 : decode cX7_isFigure 7 = .ok (.bipush 57, 2) := by decide +kernel
theorem dX7_isFigure_9 : decode cX7_isFigure 9 = .ok (.if_icmp .gt 7, 3) := by decide +kernel
theorem dX7_isFigure_12 : decode cX7_isFigure 12 = .ok (.iconst 1, 1) := by decide +kernel
theorem dX7_isFigure_13 : decode cX7_isFigure 13 = .ok (.goto 4, 3) := by decide +kernel
theorem dX7_isFigure_16 : decode cX7_isFigure 16 = .ok (.iconst 0, 1) := by decide +kernel
theorem dX7_isFigure_17 : decode cX7_isFigure 17 = .ok (.ireturn, 1) := by decide +kernel
theorem dX8_whereSo_0 : decode cX8_whereSo 0 = .ok (.iload_n 0, 1) := by decide +kernel
theorem dX8_whereSo_1 : decode cX8_whereSo 1 = .ok (.bipush 6, 2) := by decide +kernel
theorem dX8_whereSo_3 : decode cX8_whereSo 3 = .ok (.if_icmp .ge 9, 3) := by decide +kernel
theorem dX8_whereSo_6 : decode cX8_whereSo 6 = .ok (.getstatic 11, 3) := by decide +kernel
theorem dX8_whereSo_9 : decode cX8_whereSo 9 = .ok (.iload_n 0, 1) := by decide +kernel
theorem dX8_whereSo_10 : decode cX8_whereSo 10 = .ok (.laload, 1) := by decide +kernel
theorem dX8_whereSo_11 : decode cX8_whereSo 11 = .ok (.lreturn, 1) := by decide +kernel
theorem dX8_whereSo_12 : decode cX8_whereSo 12 = .ok (.iload_n 1, 1) := by decide +kernel
theorem dX8_whereSo_13 : decode cX8_whereSo 13 = .ok (.iload_n 0, 1) := by decide +kernel
theorem dX8_whereSo_14 : decode cX8_whereSo 14 = .ok (.bipush 6, 2) := by decide +kernel
theorem dX8_whereSo_16 : decode cX8_whereSo 16 = .ok (.isub, 1) := by decide +kernel
theorem dX8_whereSo_17 : decode cX8_whereSo 17 = .ok (.ishr, 1) := by decide +kernel
theorem dX8_whereSo_18 : decode cX8_whereSo 18 = .ok (.iconst 1, 1) := by decide +kernel
theorem dX8_whereSo_19 : decode cX8_whereSo 19 = .ok (.iand, 1) := by decide +kernel
theorem dX8_whereSo_20 : decode cX8_whereSo 20 = .ok (.iconst 1, 1) := by decide +kernel
theorem dX8_whereSo_21 : decode cX8_whereSo 21 = .ok (.if_icmp .ne 9, 3) := by decide +kernel
theorem dX8_whereSo_24 : decode cX8_whereSo 24 = .ok (.ldc2_w 15, 3) := by decide +kernel
theorem dX8_whereSo_27 : decode cX8_whereSo 27 = .ok (.goto 4, 3) := by decide +kernel
theorem dX8_whereSo_30 : decode cX8_whereSo 30 = .ok (.lconst 0, 1) := by decide +kernel
theorem dX8_whereSo_31 : decode cX8_whereSo 31 = .ok (.lreturn, 1) := by decide +kernel
set_option maxRecDepth 20000 in
theorem ggX8_whereClauseHolds_X8_whereSo : GoodIn wsX8_whereClauseHolds wsX8_whereSo := goodIn_r _ [5, 6, 1] (by decide +kernel) (by decide +kernel)
set_option maxRecDepth 20000 in
theorem gX8_whereClauseHolds_X8_whereSo : GoodIn wsX8_whereClauseHolds (va_wsS RX8 17 yX8_whereSo wsX8_whereSo) := goodIn_app (goodIn_of _ (by decide +kernel)) ggX8_whereClauseHolds_X8_whereSo
theorem dX8_whereClauseHolds_0 : decode cX8_whereClauseHolds 0 = .ok (.lconst 0, 1) := by decide +kernel
theorem dX8_whereClauseHolds_1 : decode cX8_whereClauseHolds 1 = .ok (.lstore_n 3, 1) := by decide +kernel
theorem dX8_whereClauseHolds_2 : decode cX8_whereClauseHolds 2 = .ok (.iconst 0, 1) := by decide +kernel
theorem dX8_whereClauseHolds_3 : decode cX8_whereClauseHolds 3 = .ok (.istore 5, 2) := by decide +kernel
theorem dX8_whereClauseHolds_5 : decode cX8_whereClauseHolds 5 = .ok (.iload 5, 2) := by decide +kernel
theorem dX8_whereClauseHolds_7 : decode cX8_whereClauseHolds 7 = .ok (.bipush 8, 2) := by decide +kernel
theorem dX8_whereClauseHolds_9 : decode cX8_whereClauseHolds 9 = .ok (.if_icmp .ge 51, 3) := by decide +kernel
theorem dX8_whereClauseHolds_12 : decode cX8_whereClauseHolds 12 = .ok (.iload_n 0, 1) := by decide +kernel
theorem dX8_whereClauseHolds_13 : decode cX8_whereClauseHolds 13 = .ok (.iload 5, 2) := by decide +kernel
theorem dX8_whereClauseHolds_15 : decode cX8_whereClauseHolds 15 = .ok (.ishr, 1) := by decide +kernel
theorem dX8_whereClauseHolds_16 : decode cX8_whereClauseHolds 16 = .ok (.iconst 1, 1) := by decide +kernel
theorem dX8_whereClauseHolds_17 : decode cX8_whereClauseHolds 17 = .ok (.iand, 1) := by decide +kernel
theorem dX8_whereClauseHolds_18 : decode cX8_whereClauseHolds 18 = .ok (.iconst 1, 1) := by decide +kernel
theorem dX8_whereClauseHolds_19 : decode cX8_whereClauseHolds 19 = .ok (.if_icmp .ne 12, 3) := by decide +kernel
theorem dX8_whereClauseHolds_22 : decode cX8_whereClauseHolds 22 = .ok (.lload_n 3, 1) := by decide +kernel
theorem dX8_whereClauseHolds_23 : decode cX8_whereClauseHolds 23 = .ok (.iload 5, 2) := by decide +kernel
theorem dX8_whereClauseHolds_25 : decode cX8_whereClauseHolds 25 = .ok (.iload_n 2, 1) := by decide +kernel
theorem dX8_whereClauseHolds_26 : decode cX8_whereClauseHolds 26 = .ok (.invokestatic 17, 3) := by decide +kernel
theorem dX8_whereClauseHolds_29 : decode cX8_whereClauseHolds 29 = .ok (.lor, 1) := by decide +kernel
theorem dX8_whereClauseHolds_30 : decode cX8_whereClauseHolds 30 = .ok (.lstore_n 3, 1) := by decide +kernel
theorem dX8_whereClauseHolds_31 : decode cX8_whereClauseHolds 31 = .ok (.iload_n 1, 1) := by decide +kernel
theorem dX8_whereClauseHolds_32 : decode cX8_whereClauseHolds 32 = .ok (.iload 5, 2) := by decide +kernel
theorem dX8_whereClauseHolds_34 : decode cX8_whereClauseHolds 34 = .ok (.ishr, 1) := by decide +kernel
theorem dX8_whereClauseHolds_35 : decode cX8_whereClauseHolds 35 = .ok (.iconst 1, 1) := by decide +kernel
theorem dX8_whereClauseHolds_36 : decode cX8_whereClauseHolds 36 = .ok (.iand, 1) := by decide +kernel
theorem dX8_whereClauseHolds_37 : decode cX8_whereClauseHolds 37 = .ok (.iconst 1, 1) := by decide +kernel
theorem dX8_whereClauseHolds_38 : decode cX8_whereClauseHolds 38 = .ok (.if_icmp .ne 16, 3) := by decide +kernel
theorem dX8_whereClauseHolds_41 : decode cX8_whereClauseHolds 41 = .ok (.lload_n 3, 1) := by decide +kernel
theorem dX8_whereClauseHolds_42 : decode cX8_whereClauseHolds 42 = .ok (.iload 5, 2) := by decide +kernel
theorem dX8_whereClauseHolds_44 : decode cX8_whereClauseHolds 44 = .ok (.iload_n 2, 1) := by decide +kernel
theorem dX8_whereClauseHolds_45 : decode cX8_whereClauseHolds 45 = .ok (.invokestatic 17, 3) := by decide +kernel
theorem dX8_whereClauseHolds_48 : decode cX8_whereClauseHolds 48 = .ok (.ldc2_w 15, 3) := by decide +kernel
theorem dX8_whereClauseHolds_51 : decode cX8_whereClauseHolds 51 = .ok (.lxor, 1) := by decide +kernel
theorem dX8_whereClauseHolds_52 : decode cX8_whereClauseHolds 52 = .ok (.lor, 1) := by decide +kernel
theorem dX8_whereClauseHolds_53 : decode cX8_whereClauseHolds 53 = .ok (.lstore_n 3, 1) := by decide +kernel
theorem dX8_whereClauseHolds_54 : decode cX8_whereClauseHolds 54 = .ok (.iinc 5 1, 3) := by decide +kernel
theorem dX8_whereClauseHolds_57 : decode cX8_whereClauseHolds 57 = .ok (.goto (-52), 3) := by decide +kernel
theorem dX8_whereClauseHolds_60 : decode cX8_whereClauseHolds 60 = .ok (.lload_n 3, 1) := by decide +kernel
theorem dX8_whereClauseHolds_61 : decode cX8_whereClauseHolds 61 = .ok (.lreturn, 1) := by decide +kernel
set_option maxRecDepth 20000 in
theorem ggX9_init_X7_init : GoodIn wsX9_init wsX7_init := goodIn_r _ [40, 41, 2, 3, 42, 43, 82, 83, 84, 85, 86, 87] (by decide +kernel) (by decide +kernel)
set_option maxRecDepth 20000 in
theorem gX9_init_X7_init_n11 : GoodIn wsX9_init (wsX7_init) := ggX9_init_X7_init
set_option maxRecDepth 20000 in
theorem ggX9_init_X2_init : GoodIn wsX9_init wsX2_init := goodIn_r _ [45, 46, 2, 3, 42, 47, 99, 100] (by decide +kernel) (by decide +kernel)
set_option maxRecDepth 20000 in
theorem gX9_init_X2_init_n18 : GoodIn wsX9_init (wsX2_init) := ggX9_init_X2_init
set_option maxRecDepth 20000 in
theorem ggX9_init_X4_init : GoodIn wsX9_init wsX4_init := goodIn_r _ [49, 50, 2, 3, 51, 52, 101, 102] (by decide +kernel) (by decide +kernel)
set_option maxRecDepth 20000 in
theorem gX9_init_X4_init_n31 : GoodIn wsX9_init (wsX4_init) := ggX9_init_X4_init
set_option maxRecDepth 20000 in
theorem ggX9_init_X3_init : GoodIn wsX9_init wsX3_init := goodIn_r _ [54, 55, 2, 3, 42, 56, 57, 103, 104, 105] (by decide +kernel) (by decide +kernel)
set_option maxRecDepth 20000 in
theorem gX9_init_X3_init_n41 : GoodIn wsX9_init (wsX3_init) := ggX9_init_X3_init
set_option maxRecDepth 20000 in
theorem ggX9_init_X1_init : GoodIn wsX9_init wsX1_init := goodIn_r _ [59, 60, 2, 3, 51, 61, 62, 106, 107] (by decide +kernel) (by decide +kernel)
set_option maxRecDepth 20000 in
theorem gX9_init_X1_init_n48 : GoodIn wsX9_init (wsX1_init) := ggX9_init_X1_init
set_option maxRecDepth 20000 in
theorem ggX9_init_X6_init : GoodIn wsX9_init wsX6_init := goodIn_r _ [64, 65, 2, 3, 42, 66, 67, 68, 69, 70, 71, 72, 108, 109, 110, 111, 112, 113, 114, 115] (by decide +kernel) (by decide +kernel)
set_option maxRecDepth 20000 in
theorem gX9_init_X6_init_n55 : GoodIn wsX9_init (wsX6_init) := ggX9_init_X6_init
set_option maxRecDepth 20000 in
theorem ggX9_init_X5_init : GoodIn wsX9_init wsX5_init := goodIn_r _ [74, 75, 2, 3, 42, 76, 116, 117, 118, 119, 120] (by decide +kernel) (by decide +kernel)
set_option maxRecDepth 20000 in
theorem gX9_init_X5_init_n62 : GoodIn wsX9_init (wsX5_init) := ggX9_init_X5_init
set_option maxRecDepth 20000 in
theorem ggX9_init_X0_init : GoodIn wsX9_init wsX0_init := goodIn_r _ [78, 79, 2, 3, 80, 32, 33, 81, 73, 74, 75, 42, 76, 116, 117, 118, 119, 120, 121, 122] (by decide +kernel) (by decide +kernel)
set_option maxRecDepth 20000 in
theorem gX9_init_X0_init_n74 : GoodIn wsX9_init (wsX0_init) := ggX9_init_X0_init
theorem dX9_init_0 : decode cX9_init 0 = .ok (.aload_n 0, 1) := by decide +kernel
theorem dX9_init_1 : decode cX9_init 1 = .ok (.invokespecial 3, 3) := by decide +kernel
theorem dX9_init_4 : decode cX9_init 4 = .ok (.aload_n 0, 1) := by decide +kernel
theorem dX9_init_5 : decode cX9_init 5 = .ok (.new 9, 3) := by decide +kernel
theorem dX9_init_8 : decode cX9_init 8 = .ok (.dup, 1) := by decide +kernel
theorem dX9_init_9 : decode cX9_init 9 = .ok (.invokespecial 11, 3) := by decide +kernel
theorem dX9_init_12 : decode cX9_init 12 = .ok (.putfield 12, 3) := by decide +kernel
theorem dX9_init_15 : decode cX9_init 15 = .ok (.aload_n 0, 1) := by decide +kernel
theorem dX9_init_16 : decode cX9_init 16 = .ok (.new 16, 3) := by decide +kernel
theorem dX9_init_19 : decode cX9_init 19 = .ok (.dup, 1) := by decide +kernel
theorem dX9_init_20 : decode cX9_init 20 = .ok (.invokespecial 18, 3) := by decide +kernel
theorem dX9_init_23 : decode cX9_init 23 = .ok (.putfield 19, 3) := by decide +kernel
theorem dX9_init_26 : decode cX9_init 26 = .ok (.aload_n 0, 1) := by decide +kernel
theorem dX9_init_27 : decode cX9_init 27 = .ok (.iconst 2, 1) := by decide +kernel
theorem dX9_init_28 : decode cX9_init 28 = .ok (.anewarray 23, 3) := by decide +kernel
theorem dX9_init_31 : decode cX9_init 31 = .ok (.putfield 25, 3) := by decide +kernel
theorem dX9_init_34 : decode cX9_init 34 = .ok (.aload_n 0, 1) := by decide +kernel
theorem dX9_init_35 : decode cX9_init 35 = .ok (.new 29, 3) := by decide +kernel
theorem dX9_init_38 : decode cX9_init 38 = .ok (.dup, 1) := by decide +kernel
theorem dX9_init_39 : decode cX9_init 39 = .ok (.invokespecial 31, 3) := by decide +kernel
theorem dX9_init_42 : decode cX9_init 42 = .ok (.putfield 32, 3) := by decide +kernel
theorem dX9_init_45 : decode cX9_init 45 = .ok (.aload_n 0, 1) := by decide +kernel
theorem dX9_init_46 : decode cX9_init 46 = .ok (.new 29, 3) := by decide +kernel
theorem dX9_init_49 : decode cX9_init 49 = .ok (.dup, 1) := by decide +kernel
theorem dX9_init_50 : decode cX9_init 50 = .ok (.invokespecial 31, 3) := by decide +kernel
theorem dX9_init_53 : decode cX9_init 53 = .ok (.putfield 36, 3) := by decide +kernel
theorem dX9_init_56 : decode cX9_init 56 = .ok (.aload_n 0, 1) := by decide +kernel
theorem dX9_init_57 : decode cX9_init 57 = .ok (.new 39, 3) := by decide +kernel
theorem dX9_init_60 : decode cX9_init 60 = .ok (.dup, 1) := by decide +kernel
theorem dX9_init_61 : decode cX9_init 61 = .ok (.invokespecial 41, 3) := by decide +kernel
theorem dX9_init_64 : decode cX9_init 64 = .ok (.putfield 42, 3) := by decide +kernel
theorem dX9_init_67 : decode cX9_init 67 = .ok (.aload_n 0, 1) := by decide +kernel
theorem dX9_init_68 : decode cX9_init 68 = .ok (.new 46, 3) := by decide +kernel
theorem dX9_init_71 : decode cX9_init 71 = .ok (.dup, 1) := by decide +kernel
theorem dX9_init_72 : decode cX9_init 72 = .ok (.invokespecial 48, 3) := by decide +kernel
theorem dX9_init_75 : decode cX9_init 75 = .ok (.putfield 49, 3) := by decide +kernel
theorem dX9_init_78 : decode cX9_init 78 = .ok (.aload_n 0, 1) := by decide +kernel
theorem dX9_init_79 : decode cX9_init 79 = .ok (.new 53, 3) := by decide +kernel
theorem dX9_init_82 : decode cX9_init 82 = .ok (.dup, 1) := by decide +kernel
theorem dX9_init_83 : decode cX9_init 83 = .ok (.invokespecial 55, 3) := by decide +kernel
theorem dX9_init_86 : decode cX9_init 86 = .ok (.putfield 56, 3) := by decide +kernel
theorem dX9_init_89 : decode cX9_init 89 = .ok (.aload_n 0, 1) := by decide +kernel
theorem dX9_init_90 : decode cX9_init 90 = .ok (.new 60, 3) := by decide +kernel
theorem dX9_init_93 : decode cX9_init 93 = .ok (.dup, 1) := by decide +kernel
theorem dX9_init_94 : decode cX9_init 94 = .ok (.invokespecial 62, 3) := by decide +kernel
theorem dX9_init_97 : decode cX9_init 97 = .ok (.putfield 63, 3) := by decide +kernel
theorem dX9_init_100 : decode cX9_init 100 = .ok (.aload_n 0, 1) := by decide +kernel
theorem dX9_init_101 : decode cX9_init 101 = .ok (.new 60, 3) := by decide +kernel
theorem dX9_init_104 : decode cX9_init 104 = .ok (.dup, 1) := by decide +kernel
theorem dX9_init_105 : decode cX9_init 105 = .ok (.invokespecial 62, 3) := by decide +kernel
theorem dX9_init_108 : decode cX9_init 108 = .ok (.putfield 67, 3) := by decide +kernel
theorem dX9_init_111 : decode cX9_init 111 = .ok (.aload_n 0, 1) := by decide +kernel
theorem dX9_init_112 : decode cX9_init 112 = .ok (.iconst (-1), 1) := by decide +kernel
theorem dX9_init_113 : decode cX9_init 113 = .ok (.putfield 70, 3) := by decide +kernel
theorem dX9_init_116 : decode cX9_init 116 = .ok (.iconst 0, 1) := by decide +kernel
theorem dX9_init_117 : decode cX9_init 117 = .ok (.istore_n 1, 1) := by decide +kernel
theorem dX9_init_118 : decode cX9_init 118 = .ok (.iload_n 1, 1) := by decide +kernel
theorem dX9_init_119 : decode cX9_init 119 = .ok (.iconst 2, 1) := by decide +kernel
theorem dX9_init_120 : decode cX9_init 120 = .ok (.if_icmp .ge 22, 3) := by decide +kernel
theorem dX9_init_123 : decode cX9_init 123 = .ok (.aload_n 0, 1) := by decide +kernel
theorem dX9_init_124 : decode cX9_init 124 = .ok (.getfield 25, 3) := by decide +kernel
theorem dX9_init_127 : decode cX9_init 127 = .ok (.iload_n 1, 1) := by decide +kernel
theorem dX9_init_128 : decode cX9_init 128 = .ok (.new 23, 3) := by decide +kernel
theorem dX9_init_131 : decode cX9_init 131 = .ok (.dup, 1) := by decide +kernel
theorem dX9_init_132 : decode cX9_init 132 = .ok (.invokespecial 74, 3) := by decide +kernel
theorem dX9_init_135 : decode cX9_init 135 = .ok (.aastore, 1) := by decide +kernel
theorem dX9_init_136 : decode cX9_init 136 = .ok (.iinc 1 1, 3) := by decide +kernel
theorem dX9_init_139 : decode cX9_init 139 = .ok (.goto (-21), 3) := by decide +kernel
theorem dX9_init_142 : decode cX9_init 142 = .ok (.return_, 1) := by decide +kernel
set_option maxRecDepth 20000 in
theorem ggX9_feed_X9_within : GoodIn wsX9_feed wsX9_within := goodIn_r _ [8] (by decide +kernel) (by decide +kernel)
set_option maxRecDepth 20000 in
theorem gX9_feed_X9_within : GoodIn wsX9_feed (va_wsS RX9 75 yX9_within wsX9_within) := goodIn_app (goodIn_of _ (by decide +kernel)) ggX9_feed_X9_within
set_option maxRecDepth 20000 in
theorem ggX9_feed_X7_add : GoodIn wsX9_feed wsX7_add := goodIn_r _ [13, 14, 15, 27, 28, 29, 30, 31, 32] (by decide +kernel) (by decide +kernel)
set_option maxRecDepth 20000 in
theorem gX9_feed_X7_add : GoodIn wsX9_feed (wsV RX9 80 RX7 yX7_add wsX7_add) := goodIn_app (goodIn_of _ (by decide +kernel)) ggX9_feed_X7_add
theorem dX9_feed_0 : decode cX9_feed 0 = .ok (.iload_n 1, 1) := by decide +kernel
theorem dX9_feed_1 : decode cX9_feed 1 = .ok (.iconst 0, 1) := by decide +kernel
theorem dX9_feed_2 : decode cX9_feed 2 = .ok (.sipush 255, 3) := by decide +kernel
theorem dX9_feed_5 : decode cX9_feed 5 = .ok (.invokestatic 75, 3) := by decide +kernel
theorem dX9_feed_8 : decode cX9_feed 8 = .ok (.ifCond .ne 6, 3) := by decide +kernel
theorem dX9_feed_11 : decode cX9_feed 11 = .ok (.ldc 79, 2) := by decide +kernel
theorem dX9_feed_13 : decode cX9_feed 13 = .ok (.ireturn, 1) := by decide +kernel
theorem dX9_feed_14 : decode cX9_feed 14 = .ok (.aload_n 0, 1) := by decide +kernel
theorem dX9_feed_15 : decode cX9_feed 15 = .ok (.getfield 12, 3) := by decide +kernel
theorem dX9_feed_18 : decode cX9_feed 18 = .ok (.iload_n 1, 1) := by decide +kernel
theorem dX9_feed_19 : decode cX9_feed 19 = .ok (.invokevirtual 80, 3) := by decide +kernel
theorem dX9_feed_22 : decode cX9_feed 22 = .ok (.ifCond .eq 13, 3) := by decide +kernel
theorem dX9_feed_25 : decode cX9_feed 25 = .ok (.aload_n 0, 1) := by decide +kernel
theorem dX9_feed_26 : decode cX9_feed 26 = .ok (.getfield 12, 3) := by decide +kernel
theorem dX9_feed_29 : decode cX9_feed 29 = .ok (.getfield 84, 3) := by decide +kernel
theorem dX9_feed_32 : decode cX9_feed 32 = .ok (.goto 5, 3) := by decide +kernel
theorem dX9_feed_35 : decode cX9_feed 35 = .ok (.ldc 87, 2) := by decide +kernel
theorem dX9_feed_37 : decode cX9_feed 37 = .ok (.ireturn, 1) := by decide +kernel
set_option maxRecDepth 20000 in
theorem ggX9_parties_X7_readInto : GoodIn wsX9_parties wsX7_readInto := goodIn_r _ [16, 17, 18, 19, 20, 21, 22, 23, 24, 25, 26, 27, 28, 29, 30, 31, 15, 32, 33, 34, 35, 36, 37, 38, 39, 40, 41, 42, 43, 44, 45, 46, 47, 48, 49, 50, 51, 52, 53, 54, 55, 56, 57, 58, 59, 60, 61, 62, 63, 64, 65, 66, 67, 68, 69, 70, 71, 72, 73, 74, 75, 76, 77, 78, 79, 80, 81, 82, 83, 84, 85, 86, 87, 88, 89, 90, 91, 92, 93, 105, 106, 107, 108, 109, 110, 115, 116, 117, 118, 119] (by decide +kernel) (by decide +kernel)
set_option maxRecDepth 20000 in
theorem gX9_parties_X7_readInto : GoodIn wsX9_parties (wsV RX9 88 RX7 yX7_readInto wsX7_readInto) := goodIn_app (goodIn_of _ (by decide +kernel)) ggX9_parties_X7_readInto
theorem dX9_parties_0 : decode cX9_parties 0 = .ok (.aload_n 0, 1) := by decide +kernel
theorem dX9_parties_1 : decode cX9_parties 1 = .ok (.getfield 12, 3) := by decide +kernel
theorem dX9_parties_4 : decode cX9_parties 4 = .ok (.aload_n 0, 1) := by decide +kernel
theorem dX9_parties_5 : decode cX9_parties 5 = .ok (.getfield 67, 3) := by decide +kernel
theorem dX9_parties_8 : decode cX9_parties 8 = .ok (.invokevirtual 88, 3) := by decide +kernel
theorem dX9_parties_11 : decode cX9_parties 11 = .ok (.istore_n 1, 1) := by decide +kernel
theorem dX9_parties_12 : decode cX9_parties 12 = .ok (.aload_n 0, 1) := by decide +kernel
theorem dX9_parties_13 : decode cX9_parties 13 = .ok (.iload_n 1, 1) := by decide +kernel
theorem dX9_parties_14 : decode cX9_parties 14 = .ok (.ifCond .ne 7, 3) := by decide +kernel
theorem dX9_parties_17 : decode cX9_parties 17 = .ok (.iconst (-1), 1) := by decide +kernel
theorem dX9_parties_18 : decode cX9_parties 18 = .ok (.goto 10, 3) := by decide +kernel
theorem dX9_parties_21 : decode cX9_parties 21 = .ok (.aload_n 0, 1) := by decide +kernel
theorem dX9_parties_22 : decode cX9_parties 22 = .ok (.getfield 12, 3) := by decide +kernel
theorem dX9_parties_25 : decode cX9_parties 25 = .ok (.getfield 92, 3) := by decide +kernel
theorem dX9_parties_28 : decode cX9_parties 28 = .ok (.putfield 70, 3) := by decide +kernel
theorem dX9_parties_31 : decode cX9_parties 31 = .ok (.aload_n 0, 1) := by decide +kernel
theorem dX9_parties_32 : decode cX9_parties 32 = .ok (.getfield 12, 3) := by decide +kernel
theorem dX9_parties_35 : decode cX9_parties 35 = .ok (.iconst 0, 1) := by decide +kernel
theorem dX9_parties_36 : decode cX9_parties 36 = .ok (.putfield 84, 3) := by decide +kernel
theorem dX9_parties_39 : decode cX9_parties 39 = .ok (.iload_n 1, 1) := by decide +kernel
theorem dX9_parties_40 : decode cX9_parties 40 = .ok (.ifCond .eq 8, 3) := by decide +kernel
theorem dX9_parties_43 : decode cX9_parties 43 = .ok (.bipush (-10), 2) := by decide +kernel
theorem dX9_parties_45 : decode cX9_parties 45 = .ok (.iload_n 1, 1) := by decide +kernel
theorem dX9_parties_46 : decode cX9_parties 46 = .ok (.isub, 1) := by decide +kernel
theorem dX9_parties_47 : decode cX9_parties 47 = .ok (.ireturn, 1) := by decide +kernel
theorem dX9_parties_48 : decode cX9_parties 48 = .ok (.aload_n 0, 1) := by decide +kernel
theorem dX9_parties_49 : decode cX9_parties 49 = .ok (.getfield 67, 3) := by decide +kernel
theorem dX9_parties_52 : decode cX9_parties 52 = .ok (.astore_n 2, 1) := by decide +kernel
theorem dX9_parties_53 : decode cX9_parties 53 = .ok (.aload_n 0, 1) := by decide +kernel
theorem dX9_parties_54 : decode cX9_parties 54 = .ok (.aload_n 0, 1) := by decide +kernel
theorem dX9_parties_55 : decode cX9_parties 55 = .ok (.getfield 63, 3) := by decide +kernel
theorem dX9_parties_58 : decode cX9_parties 58 = .ok (.putfield 67, 3) := by decide +kernel
theorem dX9_parties_61 : decode cX9_parties 61 = .ok (.aload_n 0, 1) := by decide +kernel
theorem dX9_parties_62 : decode cX9_parties 62 = .ok (.aload_n 2, 1) := by decide +kernel
theorem dX9_parties_63 : decode cX9_parties 63 = .ok (.putfield 63, 3) := by decide +kernel
theorem dX9_parties_66 : decode cX9_parties 66 = .ok (.aload_n 0, 1) := by decide +kernel
theorem dX9_parties_67 : decode cX9_parties 67 = .ok (.getfield 19, 3) := by decide +kernel
theorem dX9_parties_70 : decode cX9_parties 70 = .ok (.iconst 0, 1) := by decide +kernel
theorem dX9_parties_71 : decode cX9_parties 71 = .ok (.putfield 93, 3) := by decide +kernel
theorem dX9_parties_74 : decode cX9_parties 74 = .ok (.iconst 0, 1) := by decide +kernel
theorem dX9_parties_75 : decode cX9_parties 75 = .ok (.istore_n 3, 1) := by decide +kernel
theorem dX9_parties_76 : decode cX9_parties 76 = .ok (.iload_n 3, 1) := by decide +kernel
theorem dX9_parties_77 : decode cX9_parties 77 = .ok (.iconst 2, 1) := by decide +kernel
theorem dX9_parties_78 : decode cX9_parties 78 = .ok (.if_icmp .ge 19, 3) := by decide +kernel
theorem dX9_parties_81 : decode cX9_parties 81 = .ok (.aload_n 0, 1) := by decide +kernel
theorem dX9_parties_82 : decode cX9_parties 82 = .ok (.getfield 25, 3) := by decide +kernel
theorem dX9_parties_85 : decode cX9_parties 85 = .ok (.iload_n 3, 1) := by decide +kernel
theorem dX9_parties_86 : decode cX9_parties 86 = .ok (.aaload, 1) := by decide +kernel
theorem dX9_parties_87 : decode cX9_parties 87 = .ok (.iconst 0, 1) := by decide +kernel
theorem dX9_parties_88 : decode cX9_parties 88 = .ok (.putfield 96, 3) := by decide +kernel
theorem dX9_parties_91 : decode cX9_parties 91 = .ok (.iinc 3 1, 3) := by decide +kernel
theorem dX9_parties_94 : decode cX9_parties 94 = .ok (.goto (-18), 3) := by decide +kernel
theorem dX9_parties_97 : decode cX9_parties 97 = .ok (.aload_n 0, 1) := by decide +kernel
theorem dX9_parties_98 : decode cX9_parties 98 = .ok (.getfield 63, 3) := by decide +kernel
theorem dX9_parties_101 : decode cX9_parties 101 = .ok (.getfield 100, 3) := by decide +kernel
theorem dX9_parties_104 : decode cX9_parties 104 = .ok (.ireturn, 1) := by decide +kernel
theorem dX9_fault_0 : decode cX9_fault 0 = .ok (.aload_n 0, 1) := by decide +kernel
theorem dX9_fault_1 : decode cX9_fault 1 = .ok (.getfield 70, 3) := by decide +kernel
theorem dX9_fault_4 : decode cX9_fault 4 = .ok (.ireturn, 1) := by decide +kernel
set_option maxRecDepth 20000 in
theorem ggX9_told_X5_firstEmpty : GoodIn wsX9_told wsX5_firstEmpty := goodIn_r _ [16, 17, 18, 19, 20, 15, 21, 22, 23, 24, 25, 26, 103, 104, 105, 106, 107] (by decide +kernel) (by decide +kernel)
set_option maxRecDepth 20000 in
theorem gX9_told_X5_firstEmpty : GoodIn wsX9_told (wsV RX9 104 RX5 yX5_firstEmpty wsX5_firstEmpty) := goodIn_app (goodIn_of _ (by decide +kernel)) ggX9_told_X5_firstEmpty
set_option maxRecDepth 20000 in
theorem ggX9_told_X5_sharedLetters : GoodIn wsX9_told wsX5_sharedLetters := goodIn_r _ [30, 31, 32, 103, 104, 105, 106, 107] (by decide +kernel) (by decide +kernel)
set_option maxRecDepth 20000 in
theorem gX9_told_X5_sharedLetters : GoodIn wsX9_told (wsV RX9 108 RX5 yX5_sharedLetters wsX5_sharedLetters) := goodIn_app (goodIn_of _ (by decide +kernel)) ggX9_told_X5_sharedLetters
set_option maxRecDepth 20000 in
theorem ggX9_told_X1_worldsOf : GoodIn wsX9_told wsX1_worldsOf := goodIn_r _ [37, 38, 39, 36, 40, 41, 42, 43, 23, 24, 15, 25, 26, 44, 45, 46, 47, 48, 49, 50, 51, 52, 53, 54, 55, 56, 57, 58, 59, 103, 104, 105, 106, 107] (by decide +kernel) (by decide +kernel)
set_option maxRecDepth 20000 in
theorem gX9_told_X1_worldsOf : GoodIn wsX9_told (wsV RX9 111 RX1 yX1_worldsOf wsX1_worldsOf) := goodIn_app (goodIn_of _ (by decide +kernel)) ggX9_told_X1_worldsOf
set_option maxRecDepth 20000 in
theorem ggX9_told_X1_leastOf : GoodIn wsX9_told wsX1_leastOf := goodIn_r _ [63, 42, 64, 65, 66, 36, 67, 68, 69, 41, 43, 23, 24, 15, 25, 26, 44, 45, 46, 47, 48, 49, 50, 51, 52, 70, 71, 72, 73, 74, 75, 76, 77, 78, 79, 80, 81, 82, 83, 84, 85, 86, 87, 88, 89, 90, 91, 103, 104, 105, 106, 107, 124, 125] (by decide +kernel) (by decide +kernel)
set_option maxRecDepth 20000 in
theorem gX9_told_X1_leastOf : GoodIn wsX9_told (wsV RX9 115 RX1 yX1_leastOf wsX1_leastOf) := goodIn_app (goodIn_of _ (by decide +kernel)) ggX9_told_X1_leastOf
theorem dX9_told_0 : decode cX9_told 0 = .ok (.iload_n 1, 1) := by decide +kernel
theorem dX9_told_1 : decode cX9_told 1 = .ok (.tableswitch 166 0 10 #[59, 67, 75, 83, 91, 104, 117, 130, 142, 150, 158], 59) := by decide +kernel
theorem dX9_told_60 : decode cX9_told 60 = .ok (.aload_n 0, 1) := by decide +kernel
theorem dX9_told_61 : decode cX9_told 61 = .ok (.getfield 63, 3) := by decide +kernel
theorem dX9_told_64 : decode cX9_told 64 = .ok (.getfield 101, 3) := by decide +kernel
theorem dX9_told_67 : decode cX9_told 67 = .ok (.ireturn, 1) := by decide +kernel
theorem dX9_told_68 : decode cX9_told 68 = .ok (.aload_n 0, 1) := by decide +kernel
theorem dX9_told_69 : decode cX9_told 69 = .ok (.getfield 63, 3) := by decide +kernel
theorem dX9_told_72 : decode cX9_told 72 = .ok (.getfield 100, 3) := by decide +kernel
theorem dX9_told_75 : decode cX9_told 75 = .ok (.ireturn, 1) := by decide +kernel
theorem dX9_told_76 : decode cX9_told 76 = .ok (.aload_n 0, 1) := by decide +kernel
theorem dX9_told_77 : decode cX9_told 77 = .ok (.getfield 63, 3) := by decide +kernel
theorem dX9_told_80 : decode cX9_told 80 = .ok (.invokevirtual 104, 3) := by decide +kernel
theorem dX9_told_83 : decode cX9_told 83 = .ok (.ireturn, 1) := by decide +kernel
theorem dX9_told_84 : decode cX9_told 84 = .ok (.aload_n 0, 1) := by decide +kernel
theorem dX9_told_85 : decode cX9_told 85 = .ok (.getfield 63, 3) := by decide +kernel
theorem dX9_told_88 : decode cX9_told 88 = .ok (.invokevirtual 108, 3) := by decide +kernel
theorem dX9_told_91 : decode cX9_told 91 = .ok (.ireturn, 1) := by decide +kernel
theorem dX9_told_92 : decode cX9_told 92 = .ok (.aload_n 0, 1) := by decide +kernel
theorem dX9_told_93 : decode cX9_told 93 = .ok (.getfield 49, 3) := by decide +kernel
theorem dX9_told_96 : decode cX9_told 96 = .ok (.aload_n 0, 1) := by decide +kernel
theorem dX9_told_97 : decode cX9_told 97 = .ok (.getfield 63, 3) := by decide +kernel
theorem dX9_told_100 : decode cX9_told 100 = .ok (.iconst 0, 1) := by decide +kernel
theorem dX9_told_101 : decode cX9_told 101 = .ok (.invokevirtual 111, 3) := by decide +kernel
theorem dX9_told_104 : decode cX9_told 104 = .ok (.ireturn, 1) := by decide +kernel
theorem dX9_told_105 : decode cX9_told 105 = .ok (.aload_n 0, 1) := by decide +kernel
theorem dX9_told_106 : decode cX9_told 106 = .ok (.getfield 49, 3) := by decide +kernel
theorem dX9_told_109 : decode cX9_told 109 = .ok (.aload_n 0, 1) := by decide +kernel
theorem dX9_told_110 : decode cX9_told 110 = .ok (.getfield 63, 3) := by decide +kernel
theorem dX9_told_113 : decode cX9_told 113 = .ok (.iconst 1, 1) := by decide +kernel
theorem dX9_told_114 : decode cX9_told 114 = .ok (.invokevirtual 111, 3) := by decide +kernel
theorem dX9_told_117 : decode cX9_told 117 = .ok (.ireturn, 1) := by decide +kernel
theorem dX9_told_118 : decode cX9_told 118 = .ok (.aload_n 0, 1) := by decide +kernel
theorem dX9_told_119 : decode cX9_told 119 = .ok (.getfield 49, 3) := by decide +kernel
theorem dX9_told_122 : decode cX9_told 122 = .ok (.aload_n 0, 1) := by decide +kernel
theorem dX9_told_123 : decode cX9_told 123 = .ok (.getfield 63, 3) := by decide +kernel
theorem dX9_told_126 : decode cX9_told 126 = .ok (.iconst 2, 1) := by decide +kernel
theorem dX9_told_127 : decode cX9_told 127 = .ok (.invokevirtual 111, 3) := by decide +kernel
theorem dX9_told_130 : decode cX9_told 130 = .ok (.ireturn, 1) := by decide +kernel
theorem dX9_told_131 : decode cX9_told 131 = .ok (.aload_n 0, 1) := by decide +kernel
theorem dX9_told_132 : decode cX9_told 132 = .ok (.getfield 49, 3) := by decide +kernel
theorem dX9_told_135 : decode cX9_told 135 = .ok (.aload_n 0, 1) := by decide +kernel
theorem dX9_told_136 : decode cX9_told 136 = .ok (.getfield 63, 3) := by decide +kernel
theorem dX9_told_139 : decode cX9_told 139 = .ok (.invokevirtual 115, 3) := by decide +kernel
theorem dX9_told_142 : decode cX9_told 142 = .ok (.ireturn, 1) := by decide +kernel
theorem dX9_told_143 : decode cX9_told 143 = .ok (.aload_n 0, 1) := by decide +kernel
theorem dX9_told_144 : decode cX9_told 144 = .ok (.getfield 12, 3) := by decide +kernel
theorem dX9_told_147 : decode cX9_told 147 = .ok (.getfield 84, 3) := by decide +kernel
theorem dX9_told_150 : decode cX9_told 150 = .ok (.ireturn, 1) := by decide +kernel
theorem dX9_told_151 : decode cX9_told 151 = .ok (.aload_n 0, 1) := by decide +kernel
theorem dX9_told_152 : decode cX9_told 152 = .ok (.getfield 56, 3) := by decide +kernel
theorem dX9_told_155 : decode cX9_told 155 = .ok (.getfield 118, 3) := by decide +kernel
theorem dX9_told_158 : decode cX9_told 158 = .ok (.ireturn, 1) := by decide +kernel
theorem dX9_told_159 : decode cX9_told 159 = .ok (.aload_n 0, 1) := by decide +kernel
theorem dX9_told_160 : decode cX9_told 160 = .ok (.getfield 19, 3) := by decide +kernel
theorem dX9_told_163 : decode cX9_told 163 = .ok (.getfield 93, 3) := by decide +kernel
theorem dX9_told_166 : decode cX9_told 166 = .ok (.ireturn, 1) := by decide +kernel
theorem dX9_told_167 : decode cX9_told 167 = .ok (.ldc 79, 2) := by decide +kernel
theorem dX9_told_169 : decode cX9_told 169 = .ok (.ireturn, 1) := by decide +kernel
set_option maxRecDepth 20000 in
theorem ggX9_colour_X9_within : GoodIn wsX9_colour wsX9_within := goodIn_r _ [6] (by decide +kernel) (by decide +kernel)
set_option maxRecDepth 20000 in
theorem gX9_colour_X9_within : GoodIn wsX9_colour (va_wsS RX9 75 yX9_within wsX9_within) := goodIn_app (goodIn_of _ (by decide +kernel)) ggX9_colour_X9_within
set_option maxRecDepth 20000 in
theorem ggX9_colour_X5_colourOf : GoodIn wsX9_colour wsX5_colourOf := goodIn_r _ [11, 12, 13, 25, 26, 27, 28, 29] (by decide +kernel) (by decide +kernel)
set_option maxRecDepth 20000 in
theorem gX9_colour_X5_colourOf : GoodIn wsX9_colour (wsV RX9 119 RX5 yX5_colourOf wsX5_colourOf) := goodIn_app (goodIn_of _ (by decide +kernel)) ggX9_colour_X5_colourOf
theorem dX9_colour_0 : decode cX9_colour 0 = .ok (.iload_n 1, 1) := by decide +kernel
theorem dX9_colour_1 : decode cX9_colour 1 = .ok (.iconst 0, 1) := by decide +kernel
theorem dX9_colour_2 : decode cX9_colour 2 = .ok (.bipush 7, 2) := by decide +kernel
theorem dX9_colour_4 : decode cX9_colour 4 = .ok (.invokestatic 75, 3) := by decide +kernel
theorem dX9_colour_7 : decode cX9_colour 7 = .ok (.ifCond .eq 14, 3) := by decide +kernel
theorem dX9_colour_10 : decode cX9_colour 10 = .ok (.aload_n 0, 1) := by decide +kernel
theorem dX9_colour_11 : decode cX9_colour 11 = .ok (.getfield 63, 3) := by decide +kernel
theorem dX9_colour_14 : decode cX9_colour 14 = .ok (.iload_n 1, 1) := by decide +kernel
theorem dX9_colour_15 : decode cX9_colour 15 = .ok (.invokevirtual 119, 3) := by decide +kernel
theorem dX9_colour_18 : decode cX9_colour 18 = .ok (.goto 5, 3) := by decide +kernel
theorem dX9_colour_21 : decode cX9_colour 21 = .ok (.ldc 123, 2) := by decide +kernel
theorem dX9_colour_23 : decode cX9_colour 23 = .ok (.ireturn, 1) := by decide +kernel
set_option maxRecDepth 20000 in
theorem ggX9_step_X5_has : GoodIn wsX9_step wsX5_has := goodIn_r _ [8, 9, 30, 31, 32, 33, 34] (by decide +kernel) (by decide +kernel)
