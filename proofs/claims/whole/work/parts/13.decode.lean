set_option maxRecDepth 20000 in
theorem gX9_step_X5_has : GoodIn wsX9_step (wsV RX9 124 RX5 yX5_has wsX5_has) := goodIn_app (goodIn_of _ (by decide +kernel)) ggX9_step_X5_has
set_option maxRecDepth 20000 in
theorem ggX9_step_X9_within : GoodIn wsX9_step wsX9_within := goodIn_r _ [13] (by decide +kernel) (by decide +kernel)
set_option maxRecDepth 20000 in
theorem gX9_step_X9_within : GoodIn wsX9_step (va_wsS RX9 75 yX9_within wsX9_within) := goodIn_app (goodIn_of _ (by decide +kernel)) ggX9_step_X9_within
set_option maxRecDepth 20000 in
theorem ggX9_step_X5_cell : GoodIn wsX9_step wsX5_cell := goodIn_r _ [17, 18, 30, 31, 32, 33, 34] (by decide +kernel) (by decide +kernel)
set_option maxRecDepth 20000 in
theorem gX9_step_X5_cell : GoodIn wsX9_step (wsV RX9 127 RX5 yX5_cell wsX5_cell) := goodIn_app (goodIn_of _ (by decide +kernel)) ggX9_step_X5_cell
theorem dX9_step_0 : decode cX9_step 0 = .ok (.aload_n 0, 1) := by decide +kernel
theorem dX9_step_1 : decode cX9_step 1 = .ok (.getfield 63, 3) := by decide +kernel
theorem dX9_step_4 : decode cX9_step 4 = .ok (.iload_n 1, 1) := by decide +kernel
theorem dX9_step_5 : decode cX9_step 5 = .ok (.invokevirtual 124, 3) := by decide +kernel
theorem dX9_step_8 : decode cX9_step 8 = .ok (.ifCond .ne 6, 3) := by decide +kernel
theorem dX9_step_11 : decode cX9_step 11 = .ok (.ldc 123, 2) := by decide +kernel
theorem dX9_step_13 : decode cX9_step 13 = .ok (.ireturn, 1) := by decide +kernel
theorem dX9_step_14 : decode cX9_step 14 = .ok (.iload_n 2, 1) := by decide +kernel
theorem dX9_step_15 : decode cX9_step 15 = .ok (.iconst 0, 1) := by decide +kernel
theorem dX9_step_16 : decode cX9_step 16 = .ok (.bipush 7, 2) := by decide +kernel
theorem dX9_step_18 : decode cX9_step 18 = .ok (.invokestatic 75, 3) := by decide +kernel
theorem dX9_step_21 : decode cX9_step 21 = .ok (.ifCond .eq 15, 3) := by decide +kernel
theorem dX9_step_24 : decode cX9_step 24 = .ok (.aload_n 0, 1) := by decide +kernel
theorem dX9_step_25 : decode cX9_step 25 = .ok (.getfield 63, 3) := by decide +kernel
theorem dX9_step_28 : decode cX9_step 28 = .ok (.iload_n 1, 1) := by decide +kernel
theorem dX9_step_29 : decode cX9_step 29 = .ok (.iload_n 2, 1) := by decide +kernel
theorem dX9_step_30 : decode cX9_step 30 = .ok (.invokevirtual 127, 3) := by decide +kernel
theorem dX9_step_33 : decode cX9_step 33 = .ok (.goto 5, 3) := by decide +kernel
theorem dX9_step_36 : decode cX9_step 36 = .ok (.ldc 79, 2) := by decide +kernel
theorem dX9_step_38 : decode cX9_step 38 = .ok (.ireturn, 1) := by decide +kernel
set_option maxRecDepth 20000 in
theorem ggX9_holds_X5_has : GoodIn wsX9_holds wsX5_has := goodIn_r _ [8, 9, 30, 31, 32, 33, 34] (by decide +kernel) (by decide +kernel)
set_option maxRecDepth 20000 in
theorem gX9_holds_X5_has : GoodIn wsX9_holds (wsV RX9 124 RX5 yX5_has wsX5_has) := goodIn_app (goodIn_of _ (by decide +kernel)) ggX9_holds_X5_has
set_option maxRecDepth 20000 in
theorem ggX9_holds_X9_within : GoodIn wsX9_holds wsX9_within := goodIn_r _ [13] (by decide +kernel) (by decide +kernel)
set_option maxRecDepth 20000 in
theorem gX9_holds_X9_within : GoodIn wsX9_holds (va_wsS RX9 75 yX9_within wsX9_within) := goodIn_app (goodIn_of _ (by decide +kernel)) ggX9_holds_X9_within
set_option maxRecDepth 20000 in
theorem ggX9_holds_X5_cell : GoodIn wsX9_holds wsX5_cell := goodIn_r _ [17, 18, 30, 31, 32, 33, 34] (by decide +kernel) (by decide +kernel)
set_option maxRecDepth 20000 in
theorem gX9_holds_X5_cell : GoodIn wsX9_holds (wsV RX9 127 RX5 yX5_cell wsX5_cell) := goodIn_app (goodIn_of _ (by decide +kernel)) ggX9_holds_X5_cell
theorem dX9_holds_0 : decode cX9_holds 0 = .ok (.aload_n 0, 1) := by decide +kernel
theorem dX9_holds_1 : decode cX9_holds 1 = .ok (.getfield 63, 3) := by decide +kernel
theorem dX9_holds_4 : decode cX9_holds 4 = .ok (.iload_n 1, 1) := by decide +kernel
theorem dX9_holds_5 : decode cX9_holds 5 = .ok (.invokevirtual 124, 3) := by decide +kernel
theorem dX9_holds_8 : decode cX9_holds 8 = .ok (.ifCond .ne 6, 3) := by decide +kernel
theorem dX9_holds_11 : decode cX9_holds 11 = .ok (.ldc 123, 2) := by decide +kernel
theorem dX9_holds_13 : decode cX9_holds 13 = .ok (.ireturn, 1) := by decide +kernel
theorem dX9_holds_14 : decode cX9_holds 14 = .ok (.iload_n 2, 1) := by decide +kernel
theorem dX9_holds_15 : decode cX9_holds 15 = .ok (.iconst 0, 1) := by decide +kernel
theorem dX9_holds_16 : decode cX9_holds 16 = .ok (.sipush 255, 3) := by decide +kernel
theorem dX9_holds_19 : decode cX9_holds 19 = .ok (.invokestatic 75, 3) := by decide +kernel
theorem dX9_holds_22 : decode cX9_holds 22 = .ok (.ifCond .ne 6, 3) := by decide +kernel
theorem dX9_holds_25 : decode cX9_holds 25 = .ok (.ldc 79, 2) := by decide +kernel
theorem dX9_holds_27 : decode cX9_holds 27 = .ok (.ireturn, 1) := by decide +kernel
theorem dX9_holds_28 : decode cX9_holds 28 = .ok (.aload_n 0, 1) := by decide +kernel
theorem dX9_holds_29 : decode cX9_holds 29 = .ok (.getfield 63, 3) := by decide +kernel
theorem dX9_holds_32 : decode cX9_holds 32 = .ok (.iload_n 1, 1) := by decide +kernel
theorem dX9_holds_33 : decode cX9_holds 33 = .ok (.iconst 0, 1) := by decide +kernel
theorem dX9_holds_34 : decode cX9_holds 34 = .ok (.invokevirtual 127, 3) := by decide +kernel
theorem dX9_holds_37 : decode cX9_holds 37 = .ok (.iload_n 2, 1) := by decide +kernel
theorem dX9_holds_38 : decode cX9_holds 38 = .ok (.iand, 1) := by decide +kernel
theorem dX9_holds_39 : decode cX9_holds 39 = .ok (.ifCond .eq 7, 3) := by decide +kernel
theorem dX9_holds_42 : decode cX9_holds 42 = .ok (.iconst 1, 1) := by decide +kernel
theorem dX9_holds_43 : decode cX9_holds 43 = .ok (.goto 4, 3) := by decide +kernel
theorem dX9_holds_46 : decode cX9_holds 46 = .ok (.iconst 0, 1) := by decide +kernel
theorem dX9_holds_47 : decode cX9_holds 47 = .ok (.istore_n 3, 1) := by decide +kernel
theorem dX9_holds_48 : decode cX9_holds 48 = .ok (.aload_n 0, 1) := by decide +kernel
theorem dX9_holds_49 : decode cX9_holds 49 = .ok (.getfield 63, 3) := by decide +kernel
theorem dX9_holds_52 : decode cX9_holds 52 = .ok (.iload_n 1, 1) := by decide +kernel
theorem dX9_holds_53 : decode cX9_holds 53 = .ok (.iconst 1, 1) := by decide +kernel
theorem dX9_holds_54 : decode cX9_holds 54 = .ok (.invokevirtual 127, 3) := by decide +kernel
theorem dX9_holds_57 : decode cX9_holds 57 = .ok (.iload_n 2, 1) := by decide +kernel
theorem dX9_holds_58 : decode cX9_holds 58 = .ok (.iconst (-1), 1) := by decide +kernel
theorem dX9_holds_59 : decode cX9_holds 59 = .ok (.ixor, 1) := by decide +kernel
theorem dX9_holds_60 : decode cX9_holds 60 = .ok (.iand, 1) := by decide +kernel
theorem dX9_holds_61 : decode cX9_holds 61 = .ok (.ifCond .eq 7, 3) := by decide +kernel
theorem dX9_holds_64 : decode cX9_holds 64 = .ok (.iconst 1, 1) := by decide +kernel
theorem dX9_holds_65 : decode cX9_holds 65 = .ok (.goto 4, 3) := by decide +kernel
theorem dX9_holds_68 : decode cX9_holds 68 = .ok (.iconst 0, 1) := by decide +kernel
theorem dX9_holds_69 : decode cX9_holds 69 = .ok (.istore 4, 2) := by decide +kernel
theorem dX9_holds_71 : decode cX9_holds 71 = .ok (.iload_n 3, 1) := by decide +kernel
theorem dX9_holds_72 : decode cX9_holds 72 = .ok (.ifCond .ne 8, 3) := by decide +kernel
theorem dX9_holds_75 : decode cX9_holds 75 = .ok (.iload 4, 2) := by decide +kernel
theorem dX9_holds_77 : decode cX9_holds 77 = .ok (.ifCond .eq 7, 3) := by decide +kernel
theorem dX9_holds_80 : decode cX9_holds 80 = .ok (.iconst 1, 1) := by decide +kernel
theorem dX9_holds_81 : decode cX9_holds 81 = .ok (.goto 4, 3) := by decide +kernel
theorem dX9_holds_84 : decode cX9_holds 84 = .ok (.iconst 0, 1) := by decide +kernel
theorem dX9_holds_85 : decode cX9_holds 85 = .ok (.ireturn, 1) := by decide +kernel
set_option maxRecDepth 20000 in
theorem ggX9_resolve_X5_has : GoodIn wsX9_resolve wsX5_has := goodIn_r _ [11, 12, 65, 66, 67, 68, 69] (by decide +kernel) (by decide +kernel)
set_option maxRecDepth 20000 in
theorem gX9_resolve_X5_has : GoodIn wsX9_resolve (wsV RX9 124 RX5 yX5_has wsX5_has) := goodIn_app (goodIn_of _ (by decide +kernel)) ggX9_resolve_X5_has
set_option maxRecDepth 20000 in
theorem ggX9_resolve_X9_within : GoodIn wsX9_resolve wsX9_within := goodIn_r _ [16] (by decide +kernel) (by decide +kernel)
set_option maxRecDepth 20000 in
theorem gX9_resolve_X9_within : GoodIn wsX9_resolve (va_wsS RX9 75 yX9_within wsX9_within) := goodIn_app (goodIn_of _ (by decide +kernel)) ggX9_resolve_X9_within
set_option maxRecDepth 20000 in
theorem ggX9_resolve_X5_canMake : GoodIn wsX9_resolve wsX5_canMake := goodIn_r _ [20, 21, 22, 23, 10, 24, 25, 26, 27, 28, 29, 65, 66, 67, 68, 69] (by decide +kernel) (by decide +kernel)
set_option maxRecDepth 20000 in
theorem gX9_resolve_X5_canMake : GoodIn wsX9_resolve (wsV RX9 131 RX5 yX5_canMake wsX5_canMake) := goodIn_app (goodIn_of _ (by decide +kernel)) ggX9_resolve_X5_canMake
set_option maxRecDepth 20000 in
theorem ggX9_resolve_X5_noneMoreFits : GoodIn wsX9_resolve wsX5_noneMoreFits := goodIn_r _ [33, 12, 34, 65, 66, 67, 68, 69] (by decide +kernel) (by decide +kernel)
set_option maxRecDepth 20000 in
theorem gX9_resolve_X5_noneMoreFits : GoodIn wsX9_resolve (wsV RX9 135 RX5 yX5_noneMoreFits wsX5_noneMoreFits) := goodIn_app (goodIn_of _ (by decide +kernel)) ggX9_resolve_X5_noneMoreFits
set_option maxRecDepth 20000 in
theorem ggX9_resolve_X2_add : GoodIn wsX9_resolve wsX2_add := goodIn_r _ [39, 40, 41, 42, 43, 44, 45, 70, 71] (by decide +kernel) (by decide +kernel)
set_option maxRecDepth 20000 in
theorem gX9_resolve_X2_add : GoodIn wsX9_resolve (wsV RX9 139 RX2 yX2_add wsX2_add) := goodIn_app (goodIn_of _ (by decide +kernel)) ggX9_resolve_X2_add
set_option maxRecDepth 20000 in
theorem ggX9_resolve_X5_make : GoodIn wsX9_resolve wsX5_make := goodIn_r _ [49, 12, 25, 50, 51, 52, 53, 26, 27, 28, 10, 29, 21, 22, 23, 24, 65, 66, 67, 68, 69] (by decide +kernel) (by decide +kernel)
set_option maxRecDepth 20000 in
theorem gX9_resolve_X5_make : GoodIn wsX9_resolve (wsV RX9 142 RX5 yX5_make wsX5_make) := goodIn_app (goodIn_of _ (by decide +kernel)) ggX9_resolve_X5_make
theorem dX9_resolve_0 : decode cX9_resolve 0 = .ok (.aload_n 0, 1) := by decide +kernel
theorem dX9_resolve_1 : decode cX9_resolve 1 = .ok (.getfield 63, 3) := by decide +kernel
theorem dX9_resolve_4 : decode cX9_resolve 4 = .ok (.iload_n 1, 1) := by decide +kernel
theorem dX9_resolve_5 : decode cX9_resolve 5 = .ok (.invokevirtual 124, 3) := by decide +kernel
theorem dX9_resolve_8 : decode cX9_resolve 8 = .ok (.ifCond .eq 29, 3) := by decide +kernel
theorem dX9_resolve_11 : decode cX9_resolve 11 = .ok (.aload_n 0, 1) := by decide +kernel
theorem dX9_resolve_12 : decode cX9_resolve 12 = .ok (.getfield 63, 3) := by decide +kernel
theorem dX9_resolve_15 : decode cX9_resolve 15 = .ok (.iload_n 2, 1) := by decide +kernel
theorem dX9_resolve_16 : decode cX9_resolve 16 = .ok (.invokevirtual 124, 3) := by decide +kernel
theorem dX9_resolve_19 : decode cX9_resolve 19 = .ok (.ifCond .eq 18, 3) := by decide +kernel
theorem dX9_resolve_22 : decode cX9_resolve 22 = .ok (.iload_n 1, 1) := by decide +kernel
theorem dX9_resolve_23 : decode cX9_resolve 23 = .ok (.iload_n 2, 1) := by decide +kernel
theorem dX9_resolve_24 : decode cX9_resolve 24 = .ok (.if_icmp .eq 13, 3) := by decide +kernel
theorem dX9_resolve_27 : decode cX9_resolve 27 = .ok (.iload_n 3, 1) := by decide +kernel
theorem dX9_resolve_28 : decode cX9_resolve 28 = .ok (.iconst 0, 1) := by decide +kernel
theorem dX9_resolve_29 : decode cX9_resolve 29 = .ok (.bipush 7, 2) := by decide +kernel
theorem dX9_resolve_31 : decode cX9_resolve 31 = .ok (.invokestatic 75, 3) := by decide +kernel
theorem dX9_resolve_34 : decode cX9_resolve 34 = .ok (.ifCond .ne 6, 3) := by decide +kernel
theorem dX9_resolve_37 : decode cX9_resolve 37 = .ok (.ldc 123, 2) := by decide +kernel
theorem dX9_resolve_39 : decode cX9_resolve 39 = .ok (.ireturn, 1) := by decide +kernel
theorem dX9_resolve_40 : decode cX9_resolve 40 = .ok (.aload_n 0, 1) := by decide +kernel
theorem dX9_resolve_41 : decode cX9_resolve 41 = .ok (.getfield 63, 3) := by decide +kernel
theorem dX9_resolve_44 : decode cX9_resolve 44 = .ok (.iload_n 1, 1) := by decide +kernel
theorem dX9_resolve_45 : decode cX9_resolve 45 = .ok (.iload_n 2, 1) := by decide +kernel
theorem dX9_resolve_46 : decode cX9_resolve 46 = .ok (.iload_n 3, 1) := by decide +kernel
theorem dX9_resolve_47 : decode cX9_resolve 47 = .ok (.invokevirtual 131, 3) := by decide +kernel
theorem dX9_resolve_50 : decode cX9_resolve 50 = .ok (.ifCond .ne 6, 3) := by decide +kernel
theorem dX9_resolve_53 : decode cX9_resolve 53 = .ok (.ldc 134, 2) := by decide +kernel
theorem dX9_resolve_55 : decode cX9_resolve 55 = .ok (.ireturn, 1) := by decide +kernel
theorem dX9_resolve_56 : decode cX9_resolve 56 = .ok (.aload_n 0, 1) := by decide +kernel
theorem dX9_resolve_57 : decode cX9_resolve 57 = .ok (.getfield 63, 3) := by decide +kernel
theorem dX9_resolve_60 : decode cX9_resolve 60 = .ok (.invokevirtual 135, 3) := by decide +kernel
theorem dX9_resolve_63 : decode cX9_resolve 63 = .ok (.ifCond .eq 6, 3) := by decide +kernel
theorem dX9_resolve_66 : decode cX9_resolve 66 = .ok (.ldc 87, 2) := by decide +kernel
theorem dX9_resolve_68 : decode cX9_resolve 68 = .ok (.ireturn, 1) := by decide +kernel
theorem dX9_resolve_69 : decode cX9_resolve 69 = .ok (.aload_n 0, 1) := by decide +kernel
theorem dX9_resolve_70 : decode cX9_resolve 70 = .ok (.getfield 19, 3) := by decide +kernel
theorem dX9_resolve_73 : decode cX9_resolve 73 = .ok (.aload_n 0, 1) := by decide +kernel
theorem dX9_resolve_74 : decode cX9_resolve 74 = .ok (.getfield 63, 3) := by decide +kernel
theorem dX9_resolve_77 : decode cX9_resolve 77 = .ok (.getfield 100, 3) := by decide +kernel
theorem dX9_resolve_80 : decode cX9_resolve 80 = .ok (.invokevirtual 139, 3) := by decide +kernel
theorem dX9_resolve_83 : decode cX9_resolve 83 = .ok (.aload_n 0, 1) := by decide +kernel
theorem dX9_resolve_84 : decode cX9_resolve 84 = .ok (.getfield 63, 3) := by decide +kernel
theorem dX9_resolve_87 : decode cX9_resolve 87 = .ok (.iload_n 1, 1) := by decide +kernel
theorem dX9_resolve_88 : decode cX9_resolve 88 = .ok (.iload_n 2, 1) := by decide +kernel
theorem dX9_resolve_89 : decode cX9_resolve 89 = .ok (.iload_n 3, 1) := by decide +kernel
theorem dX9_resolve_90 : decode cX9_resolve 90 = .ok (.invokevirtual 142, 3) := by decide +kernel
theorem dX9_resolve_93 : decode cX9_resolve 93 = .ok (.ireturn, 1) := by decide +kernel
set_option maxRecDepth 20000 in
theorem ggX9_seek_X5_makeSought : GoodIn wsX9_seek wsX5_makeSought := goodIn_r _ [8, 9, 10, 11, 12, 7, 13, 14, 15, 16, 17, 18, 19, 20, 21, 22, 23, 24, 25, 26, 27, 28, 29, 30, 31, 32, 33, 34, 35, 36, 37, 38, 39, 40, 41, 42, 43, 44, 45, 46, 47, 48, 49, 50, 51, 52, 53, 54, 55, 78, 79, 80, 81, 82] (by decide +kernel) (by decide +kernel)
set_option maxRecDepth 20000 in
theorem gX9_seek_X5_makeSought : GoodIn wsX9_seek (wsV RX9 146 RX5 yX5_makeSought wsX5_makeSought) := goodIn_app (goodIn_of _ (by decide +kernel)) ggX9_seek_X5_makeSought
set_option maxRecDepth 20000 in
theorem ggX9_seek_X2_add : GoodIn wsX9_seek wsX2_add := goodIn_r _ [60, 61, 62, 63, 64, 65, 66, 83, 84] (by decide +kernel) (by decide +kernel)
set_option maxRecDepth 20000 in
theorem gX9_seek_X2_add : GoodIn wsX9_seek (wsV RX9 139 RX2 yX2_add wsX2_add) := goodIn_app (goodIn_of _ (by decide +kernel)) ggX9_seek_X2_add
theorem dX9_seek_0 : decode cX9_seek 0 = .ok (.aload_n 0, 1) := by decide +kernel
theorem dX9_seek_1 : decode cX9_seek 1 = .ok (.getfield 63, 3) := by decide +kernel
theorem dX9_seek_4 : decode cX9_seek 4 = .ok (.getfield 100, 3) := by decide +kernel
theorem dX9_seek_7 : decode cX9_seek 7 = .ok (.istore_n 1, 1) := by decide +kernel
theorem dX9_seek_8 : decode cX9_seek 8 = .ok (.aload_n 0, 1) := by decide +kernel
theorem dX9_seek_9 : decode cX9_seek 9 = .ok (.getfield 63, 3) := by decide +kernel
theorem dX9_seek_12 : decode cX9_seek 12 = .ok (.invokevirtual 146, 3) := by decide +kernel
theorem dX9_seek_15 : decode cX9_seek 15 = .ok (.aload_n 0, 1) := by decide +kernel
theorem dX9_seek_16 : decode cX9_seek 16 = .ok (.getfield 63, 3) := by decide +kernel
theorem dX9_seek_19 : decode cX9_seek 19 = .ok (.getfield 100, 3) := by decide +kernel
theorem dX9_seek_22 : decode cX9_seek 22 = .ok (.iload_n 1, 1) := by decide +kernel
theorem dX9_seek_23 : decode cX9_seek 23 = .ok (.isub, 1) := by decide +kernel
theorem dX9_seek_24 : decode cX9_seek 24 = .ok (.istore_n 2, 1) := by decide +kernel
theorem dX9_seek_25 : decode cX9_seek 25 = .ok (.iload_n 2, 1) := by decide +kernel
theorem dX9_seek_26 : decode cX9_seek 26 = .ok (.ifCond .le 11, 3) := by decide +kernel
theorem dX9_seek_29 : decode cX9_seek 29 = .ok (.aload_n 0, 1) := by decide +kernel
theorem dX9_seek_30 : decode cX9_seek 30 = .ok (.getfield 19, 3) := by decide +kernel
theorem dX9_seek_33 : decode cX9_seek 33 = .ok (.iload_n 1, 1) := by decide +kernel
theorem dX9_seek_34 : decode cX9_seek 34 = .ok (.invokevirtual 139, 3) := by decide +kernel
theorem dX9_seek_37 : decode cX9_seek 37 = .ok (.iload_n 2, 1) := by decide +kernel
theorem dX9_seek_38 : decode cX9_seek 38 = .ok (.ireturn, 1) := by decide +kernel
set_option maxRecDepth 20000 in
theorem ggX9_undo_X2_takeLatest : GoodIn wsX9_undo wsX2_takeLatest := goodIn_r _ [10, 11, 12, 24, 25] (by decide +kernel) (by decide +kernel)
set_option maxRecDepth 20000 in
theorem gX9_undo_X2_takeLatest : GoodIn wsX9_undo (wsV RX9 149 RX2 yX2_takeLatest wsX2_takeLatest) := goodIn_app (goodIn_of _ (by decide +kernel)) ggX9_undo_X2_takeLatest
theorem dX9_undo_0 : decode cX9_undo 0 = .ok (.aload_n 0, 1) := by decide +kernel
theorem dX9_undo_1 : decode cX9_undo 1 = .ok (.getfield 19, 3) := by decide +kernel
theorem dX9_undo_4 : decode cX9_undo 4 = .ok (.getfield 93, 3) := by decide +kernel
theorem dX9_undo_7 : decode cX9_undo 7 = .ok (.ifCond .ne 6, 3) := by decide +kernel
theorem dX9_undo_10 : decode cX9_undo 10 = .ok (.ldc 134, 2) := by decide +kernel
theorem dX9_undo_12 : decode cX9_undo 12 = .ok (.ireturn, 1) := by decide +kernel
theorem dX9_undo_13 : decode cX9_undo 13 = .ok (.aload_n 0, 1) := by decide +kernel
theorem dX9_undo_14 : decode cX9_undo 14 = .ok (.getfield 63, 3) := by decide +kernel
theorem dX9_undo_17 : decode cX9_undo 17 = .ok (.aload_n 0, 1) := by decide +kernel
theorem dX9_undo_18 : decode cX9_undo 18 = .ok (.getfield 19, 3) := by decide +kernel
theorem dX9_undo_21 : decode cX9_undo 21 = .ok (.invokevirtual 149, 3) := by decide +kernel
theorem dX9_undo_24 : decode cX9_undo 24 = .ok (.putfield 100, 3) := by decide +kernel
theorem dX9_undo_27 : decode cX9_undo 27 = .ok (.aload_n 0, 1) := by decide +kernel
theorem dX9_undo_28 : decode cX9_undo 28 = .ok (.getfield 19, 3) := by decide +kernel
theorem dX9_undo_31 : decode cX9_undo 31 = .ok (.getfield 93, 3) := by decide +kernel
theorem dX9_undo_34 : decode cX9_undo 34 = .ok (.ireturn, 1) := by decide +kernel
set_option maxRecDepth 20000 in
theorem ggX9_sentence_X5_has : GoodIn wsX9_sentence wsX5_has := goodIn_r _ [9, 10, 78, 79, 80, 81, 82] (by decide +kernel) (by decide +kernel)
set_option maxRecDepth 20000 in
theorem gX9_sentence_X5_has : GoodIn wsX9_sentence (wsV RX9 124 RX5 yX5_has wsX5_has) := goodIn_app (goodIn_of _ (by decide +kernel)) ggX9_sentence_X5_has
set_option maxRecDepth 20000 in
theorem ggX9_sentence_X9_isSystem : GoodIn wsX9_sentence wsX9_isSystem := goodIn_r _ [14, 15, 16, 13, 17] (by decide +kernel) (by decide +kernel)
set_option maxRecDepth 20000 in
theorem gX9_sentence_X9_isSystem : GoodIn wsX9_sentence (va_wsS RX9 152 yX9_isSystem wsX9_isSystem) := goodIn_app (goodIn_of _ (by decide +kernel)) ggX9_sentence_X9_isSystem
set_option maxRecDepth 20000 in
theorem ggX9_sentence_X9_within : GoodIn wsX9_sentence wsX9_within := goodIn_r _ [17] (by decide +kernel) (by decide +kernel)
set_option maxRecDepth 20000 in
theorem gX9_sentence_X9_within : GoodIn wsX9_sentence (va_wsS RX9 75 yX9_within wsX9_within) := goodIn_app (goodIn_of _ (by decide +kernel)) ggX9_sentence_X9_within
set_option maxRecDepth 20000 in
theorem ggX9_sentence_X4_read : GoodIn wsX9_sentence wsX4_read := goodIn_r _ [22, 23, 24, 25, 26, 27, 21, 28, 29, 30, 31, 32, 8, 33, 34, 35, 36, 37, 38, 39, 40, 41, 42, 43, 44, 45, 46, 47, 48, 49, 50, 51, 52, 53, 54, 55, 56, 57, 58, 83, 84, 78, 79, 80, 81, 82] (by decide +kernel) (by decide +kernel)
set_option maxRecDepth 20000 in
theorem gX9_sentence_X4_read : GoodIn wsX9_sentence (wsV RX9 155 RX4 yX4_read wsX4_read) := goodIn_app (goodIn_of _ (by decide +kernel)) ggX9_sentence_X4_read
set_option maxRecDepth 20000 in
theorem ggX9_sentence_X4_isSo : GoodIn wsX9_sentence wsX4_isSo := goodIn_r _ [62, 63, 64, 65, 21, 66, 23, 25, 83, 84] (by decide +kernel) (by decide +kernel)
set_option maxRecDepth 20000 in
theorem gX9_sentence_X4_isSo : GoodIn wsX9_sentence (wsV RX9 159 RX4 yX4_isSo wsX4_isSo) := goodIn_app (goodIn_of _ (by decide +kernel)) ggX9_sentence_X4_isSo
theorem dX9_sentence_0 : decode cX9_sentence 0 = .ok (.aload_n 0, 1) := by decide +kernel
theorem dX9_sentence_1 : decode cX9_sentence 1 = .ok (.getfield 63, 3) := by decide +kernel
theorem dX9_sentence_4 : decode cX9_sentence 4 = .ok (.iload_n 2, 1) := by decide +kernel
theorem dX9_sentence_5 : decode cX9_sentence 5 = .ok (.invokevirtual 124, 3) := by decide +kernel
theorem dX9_sentence_8 : decode cX9_sentence 8 = .ok (.ifCond .ne 6, 3) := by decide +kernel
theorem dX9_sentence_11 : decode cX9_sentence 11 = .ok (.ldc 123, 2) := by decide +kernel
theorem dX9_sentence_13 : decode cX9_sentence 13 = .ok (.ireturn, 1) := by decide +kernel
theorem dX9_sentence_14 : decode cX9_sentence 14 = .ok (.iload_n 1, 1) := by decide +kernel
theorem dX9_sentence_15 : decode cX9_sentence 15 = .ok (.invokestatic 152, 3) := by decide +kernel
theorem dX9_sentence_18 : decode cX9_sentence 18 = .ok (.ifCond .eq 14, 3) := by decide +kernel
theorem dX9_sentence_21 : decode cX9_sentence 21 = .ok (.iload_n 3, 1) := by decide +kernel
theorem dX9_sentence_22 : decode cX9_sentence 22 = .ok (.iconst 0, 1) := by decide +kernel
theorem dX9_sentence_23 : decode cX9_sentence 23 = .ok (.sipush 255, 3) := by decide +kernel
theorem dX9_sentence_26 : decode cX9_sentence 26 = .ok (.invokestatic 75, 3) := by decide +kernel
theorem dX9_sentence_29 : decode cX9_sentence 29 = .ok (.ifCond .ne 6, 3) := by decide +kernel
theorem dX9_sentence_32 : decode cX9_sentence 32 = .ok (.ldc 79, 2) := by decide +kernel
theorem dX9_sentence_34 : decode cX9_sentence 34 = .ok (.ireturn, 1) := by decide +kernel
theorem dX9_sentence_35 : decode cX9_sentence 35 = .ok (.aload_n 0, 1) := by decide +kernel
theorem dX9_sentence_36 : decode cX9_sentence 36 = .ok (.getfield 32, 3) := by decide +kernel
theorem dX9_sentence_39 : decode cX9_sentence 39 = .ok (.aload_n 0, 1) := by decide +kernel
theorem dX9_sentence_40 : decode cX9_sentence 40 = .ok (.getfield 63, 3) := by decide +kernel
theorem dX9_sentence_43 : decode cX9_sentence 43 = .ok (.iload_n 1, 1) := by decide +kernel
theorem dX9_sentence_44 : decode cX9_sentence 44 = .ok (.iload_n 2, 1) := by decide +kernel
theorem dX9_sentence_45 : decode cX9_sentence 45 = .ok (.invokevirtual 155, 3) := by decide +kernel
theorem dX9_sentence_48 : decode cX9_sentence 48 = .ok (.aload_n 0, 1) := by decide +kernel
theorem dX9_sentence_49 : decode cX9_sentence 49 = .ok (.getfield 32, 3) := by decide +kernel
theorem dX9_sentence_52 : decode cX9_sentence 52 = .ok (.iload_n 3, 1) := by decide +kernel
theorem dX9_sentence_53 : decode cX9_sentence 53 = .ok (.invokevirtual 159, 3) := by decide +kernel
theorem dX9_sentence_56 : decode cX9_sentence 56 = .ok (.ifCond .eq 7, 3) := by decide +kernel
theorem dX9_sentence_59 : decode cX9_sentence 59 = .ok (.iconst 1, 1) := by decide +kernel
theorem dX9_sentence_60 : decode cX9_sentence 60 = .ok (.goto 4, 3) := by decide +kernel
theorem dX9_sentence_63 : decode cX9_sentence 63 = .ok (.iconst 0, 1) := by decide +kernel
theorem dX9_sentence_64 : decode cX9_sentence 64 = .ok (.ireturn, 1) := by decide +kernel
set_option maxRecDepth 20000 in
theorem ggX9_about_X5_has : GoodIn wsX9_about wsX5_has := goodIn_r _ [10, 11, 114, 115, 116, 117, 118] (by decide +kernel) (by decide +kernel)
set_option maxRecDepth 20000 in
theorem gX9_about_X5_has : GoodIn wsX9_about (wsV RX9 124 RX5 yX5_has wsX5_has) := goodIn_app (goodIn_of _ (by decide +kernel)) ggX9_about_X5_has
set_option maxRecDepth 20000 in
theorem ggX9_about_X9_isSystem : GoodIn wsX9_about wsX9_isSystem := goodIn_r _ [15, 16, 17, 14, 18] (by decide +kernel) (by decide +kernel)
set_option maxRecDepth 20000 in
theorem gX9_about_X9_isSystem : GoodIn wsX9_about (va_wsS RX9 152 yX9_isSystem wsX9_isSystem) := goodIn_app (goodIn_of _ (by decide +kernel)) ggX9_about_X9_isSystem
set_option maxRecDepth 20000 in
theorem ggX9_about_X9_within : GoodIn wsX9_about wsX9_within := goodIn_r _ [18] (by decide +kernel) (by decide +kernel)
set_option maxRecDepth 20000 in
theorem gX9_about_X9_within : GoodIn wsX9_about (va_wsS RX9 75 yX9_within wsX9_within) := goodIn_app (goodIn_of _ (by decide +kernel)) ggX9_about_X9_within
set_option maxRecDepth 20000 in
theorem ggX9_about_X4_read : GoodIn wsX9_about wsX4_read := goodIn_r _ [23, 24, 25, 26, 27, 28, 22, 29, 30, 31, 32, 33, 9, 34, 35, 36, 37, 38, 39, 40, 41, 42, 43, 44, 45, 46, 47, 48, 49, 50, 51, 52, 53, 54, 55, 56, 57, 58, 59, 119, 120, 114, 115, 116, 117, 118] (by decide +kernel) (by decide +kernel)
set_option maxRecDepth 20000 in
theorem gX9_about_X4_read : GoodIn wsX9_about (wsV RX9 155 RX4 yX4_read wsX4_read) := goodIn_app (goodIn_of _ (by decide +kernel)) ggX9_about_X4_read
set_option maxRecDepth 20000 in
theorem ggX9_about_X4_worldsSo : GoodIn wsX9_about wsX4_worldsSo := goodIn_r _ [63, 64, 65, 66, 22, 67, 24, 26, 68, 69, 70, 71, 72, 73, 74, 119, 120] (by decide +kernel) (by decide +kernel)
set_option maxRecDepth 20000 in
theorem gX9_about_X4_worldsSo : GoodIn wsX9_about (wsV RX9 162 RX4 yX4_worldsSo wsX4_worldsSo) := goodIn_app (goodIn_of _ (by decide +kernel)) ggX9_about_X4_worldsSo
set_option maxRecDepth 20000 in
theorem ggX9_about_X4_speaksOf : GoodIn wsX9_about wsX4_speaksOf := goodIn_r _ [78, 79, 80, 81, 22, 82, 30, 64, 65, 66, 67, 24, 26, 59, 48, 44, 49, 50, 46, 119, 120] (by decide +kernel) (by decide +kernel)
set_option maxRecDepth 20000 in
theorem gX9_about_X4_speaksOf : GoodIn wsX9_about (wsV RX9 165 RX4 yX4_speaksOf wsX4_speaksOf) := goodIn_app (goodIn_of _ (by decide +kernel)) ggX9_about_X4_speaksOf
set_option maxRecDepth 20000 in
theorem ggX9_about_X3_countOf : GoodIn wsX9_about wsX3_countOf := goodIn_r _ [87, 88, 89, 90, 91, 92, 22, 93, 64, 65, 66, 67, 24, 26, 94, 95, 96, 86, 97, 98, 99, 100, 101, 102, 121, 122, 123, 119, 120] (by decide +kernel) (by decide +kernel)
set_option maxRecDepth 20000 in
theorem gX9_about_X3_countOf : GoodIn wsX9_about (wsV RX9 168 RX3 yX3_countOf wsX3_countOf) := goodIn_app (goodIn_of _ (by decide +kernel)) ggX9_about_X3_countOf
theorem dX9_about_0 : decode cX9_about 0 = .ok (.aload_n 0, 1) := by decide +kernel
theorem dX9_about_1 : decode cX9_about 1 = .ok (.getfield 63, 3) := by decide +kernel
theorem dX9_about_4 : decode cX9_about 4 = .ok (.iload_n 2, 1) := by decide +kernel
theorem dX9_about_5 : decode cX9_about 5 = .ok (.invokevirtual 124, 3) := by decide +kernel
theorem dX9_about_8 : decode cX9_about 8 = .ok (.ifCond .ne 6, 3) := by decide +kernel
theorem dX9_about_11 : decode cX9_about 11 = .ok (.ldc 123, 2) := by decide +kernel
theorem dX9_about_13 : decode cX9_about 13 = .ok (.ireturn, 1) := by decide +kernel
theorem dX9_about_14 : decode cX9_about 14 = .ok (.iload_n 1, 1) := by decide +kernel
theorem dX9_about_15 : decode cX9_about 15 = .ok (.invokestatic 152, 3) := by decide +kernel
theorem dX9_about_18 : decode cX9_about 18 = .ok (.ifCond .eq 12, 3) := by decide +kernel
theorem dX9_about_21 : decode cX9_about 21 = .ok (.iload_n 3, 1) := by decide +kernel
theorem dX9_about_22 : decode cX9_about 22 = .ok (.iconst 0, 1) := by decide +kernel
theorem dX9_about_23 : decode cX9_about 23 = .ok (.iconst 2, 1) := by decide +kernel
theorem dX9_about_24 : decode cX9_about 24 = .ok (.invokestatic 75, 3) := by decide +kernel
theorem dX9_about_27 : decode cX9_about 27 = .ok (.ifCond .ne 6, 3) := by decide +kernel
theorem dX9_about_30 : decode cX9_about 30 = .ok (.ldc 79, 2) := by decide +kernel
theorem dX9_about_32 : decode cX9_about 32 = .ok (.ireturn, 1) := by decide +kernel
theorem dX9_about_33 : decode cX9_about 33 = .ok (.aload_n 0, 1) := by decide +kernel
theorem dX9_about_34 : decode cX9_about 34 = .ok (.getfield 32, 3) := by decide +kernel
theorem dX9_about_37 : decode cX9_about 37 = .ok (.aload_n 0, 1) := by decide +kernel
theorem dX9_about_38 : decode cX9_about 38 = .ok (.getfield 63, 3) := by decide +kernel
theorem dX9_about_41 : decode cX9_about 41 = .ok (.iload_n 1, 1) := by decide +kernel
theorem dX9_about_42 : decode cX9_about 42 = .ok (.iload_n 2, 1) := by decide +kernel
theorem dX9_about_43 : decode cX9_about 43 = .ok (.invokevirtual 155, 3) := by decide +kernel
theorem dX9_about_46 : decode cX9_about 46 = .ok (.iload_n 3, 1) := by decide +kernel
theorem dX9_about_47 : decode cX9_about 47 = .ok (.ifCond .ne 11, 3) := by decide +kernel
theorem dX9_about_50 : decode cX9_about 50 = .ok (.aload_n 0, 1) := by decide +kernel
theorem dX9_about_51 : decode cX9_about 51 = .ok (.getfield 32, 3) := by decide +kernel
theorem dX9_about_54 : decode cX9_about 54 = .ok (.invokevirtual 162, 3) := by decide +kernel
theorem dX9_about_57 : decode cX9_about 57 = .ok (.ireturn, 1) := by decide +kernel
theorem dX9_about_58 : decode cX9_about 58 = .ok (.iload_n 3, 1) := by decide +kernel
theorem dX9_about_59 : decode cX9_about 59 = .ok (.iconst 1, 1) := by decide +kernel
theorem dX9_about_60 : decode cX9_about 60 = .ok (.if_icmp .ne 13, 3) := by decide +kernel
theorem dX9_about_63 : decode cX9_about 63 = .ok (.aload_n 0, 1) := by decide +kernel
theorem dX9_about_64 : decode cX9_about 64 = .ok (.getfield 32, 3) := by decide +kernel
theorem dX9_about_67 : decode cX9_about 67 = .ok (.invokevirtual 165, 3) := by decide +kernel
theorem dX9_about_70 : decode cX9_about 70 = .ok (.goto 14, 3) := by decide +kernel
theorem dX9_about_73 : decode cX9_about 73 = .ok (.aload_n 0, 1) := by decide +kernel
theorem dX9_about_74 : decode cX9_about 74 = .ok (.getfield 42, 3) := by decide +kernel
theorem dX9_about_77 : decode cX9_about 77 = .ok (.aload_n 0, 1) := by decide +kernel
theorem dX9_about_78 : decode cX9_about 78 = .ok (.getfield 32, 3) := by decide +kernel
theorem dX9_about_81 : decode cX9_about 81 = .ok (.invokevirtual 168, 3) := by decide +kernel
theorem dX9_about_84 : decode cX9_about 84 = .ok (.ireturn, 1) := by decide +kernel
set_option maxRecDepth 20000 in
theorem ggX9_between_X9_isSystem : GoodIn wsX9_between wsX9_isSystem := goodIn_r _ [9, 10, 11, 8, 12] (by decide +kernel) (by decide +kernel)
set_option maxRecDepth 20000 in
theorem gX9_between_X9_isSystem : GoodIn wsX9_between (va_wsS RX9 152 yX9_isSystem wsX9_isSystem) := goodIn_app (goodIn_of _ (by decide +kernel)) ggX9_between_X9_isSystem
set_option maxRecDepth 20000 in
theorem ggX9_between_X5_firstEmpty : GoodIn wsX9_between wsX5_firstEmpty := goodIn_r _ [17, 18, 19, 20, 21, 16, 22, 23, 24, 25, 26, 27, 102, 103, 104, 105, 106] (by decide +kernel) (by decide +kernel)
set_option maxRecDepth 20000 in
theorem gX9_between_X5_firstEmpty : GoodIn wsX9_between (wsV RX9 104 RX5 yX5_firstEmpty wsX5_firstEmpty) := goodIn_app (goodIn_of _ (by decide +kernel)) ggX9_between_X5_firstEmpty
set_option maxRecDepth 20000 in
theorem ggX9_between_X4_read : GoodIn wsX9_between wsX4_read := goodIn_r _ [32, 33, 34, 35, 36, 37, 31, 38, 39, 40, 24, 25, 16, 26, 27, 41, 42, 43, 44, 45, 46, 47, 48, 49, 50, 51, 52, 53, 54, 55, 56, 57, 58, 59, 60, 61, 62, 63, 64, 107, 108, 102, 103, 104, 105, 106] (by decide +kernel) (by decide +kernel)
set_option maxRecDepth 20000 in
theorem gX9_between_X4_read : GoodIn wsX9_between (wsV RX9 155 RX4 yX4_read wsX4_read) := goodIn_app (goodIn_of _ (by decide +kernel)) ggX9_between_X4_read
set_option maxRecDepth 20000 in
theorem ggX9_between_X1_partiesBear : GoodIn wsX9_between wsX1_partiesBear := goodIn_r _ [69, 70, 71, 72, 73, 31, 74, 33, 35, 75, 76, 68, 77, 78, 79, 24, 25, 16, 26, 27, 80, 48, 49, 50, 51, 52, 53, 54, 55, 107, 108, 102, 103, 104, 105, 106] (by decide +kernel) (by decide +kernel)
set_option maxRecDepth 20000 in
theorem gX9_between_X1_partiesBear : GoodIn wsX9_between (wsV RX9 172 RX1 yX1_partiesBear wsX1_partiesBear) := goodIn_app (goodIn_of _ (by decide +kernel)) ggX9_between_X1_partiesBear
set_option maxRecDepth 20000 in
theorem ggX9_between_X4_speaksOf : GoodIn wsX9_between wsX4_speaksOf := goodIn_r _ [84, 85, 86, 87, 31, 88, 39, 89, 72, 73, 74, 33, 35, 64, 53, 49, 54, 55, 51, 107, 108] (by decide +kernel) (by decide +kernel)
set_option maxRecDepth 20000 in
theorem gX9_between_X4_speaksOf : GoodIn wsX9_between (wsV RX9 165 RX4 yX4_speaksOf wsX4_speaksOf) := goodIn_app (goodIn_of _ (by decide +kernel)) ggX9_between_X4_speaksOf
set_option maxRecDepth 20000 in
theorem ggX9_between_X5_sharedLetters : GoodIn wsX9_between wsX5_sharedLetters := goodIn_r _ [44, 45, 46, 102, 103, 104, 105, 106] (by decide +kernel) (by decide +kernel)
set_option maxRecDepth 20000 in
theorem gX9_between_X5_sharedLetters : GoodIn wsX9_between (wsV RX9 108 RX5 yX5_sharedLetters wsX5_sharedLetters) := goodIn_app (goodIn_of _ (by decide +kernel)) ggX9_between_X5_sharedLetters
theorem dX9_between_0 : decode cX9_between 0 = .ok (.iload_n 1, 1) := by decide +kernel
theorem dX9_between_1 : decode cX9_between 1 = .ok (.invokestatic 152, 3) := by decide +kernel
theorem dX9_between_4 : decode cX9_between 4 = .ok (.ifCond .ne 6, 3) := by decide +kernel
theorem dX9_between_7 : decode cX9_between 7 = .ok (.ldc 79, 2) := by decide +kernel
theorem dX9_between_9 : decode cX9_between 9 = .ok (.ireturn, 1) := by decide +kernel
theorem dX9_between_10 : decode cX9_between 10 = .ok (.aload_n 0, 1) := by decide +kernel
theorem dX9_between_11 : decode cX9_between 11 = .ok (.getfield 63, 3) := by decide +kernel
theorem dX9_between_14 : decode cX9_between 14 = .ok (.invokevirtual 104, 3) := by decide +kernel
theorem dX9_between_17 : decode cX9_between 17 = .ok (.istore_n 2, 1) := by decide +kernel
theorem dX9_between_18 : decode cX9_between 18 = .ok (.iload_n 2, 1) := by decide +kernel
theorem dX9_between_19 : decode cX9_between 19 = .ok (.iconst (-1), 1) := by decide +kernel
theorem dX9_between_20 : decode cX9_between 20 = .ok (.if_icmp .ne 6, 3) := by decide +kernel
theorem dX9_between_23 : decode cX9_between 23 = .ok (.ldc 134, 2) := by decide +kernel
theorem dX9_between_25 : decode cX9_between 25 = .ok (.ireturn, 1) := by decide +kernel
theorem dX9_between_26 : decode cX9_between 26 = .ok (.aload_n 0, 1) := by decide +kernel
theorem dX9_between_27 : decode cX9_between 27 = .ok (.getfield 32, 3) := by decide +kernel
theorem dX9_between_30 : decode cX9_between 30 = .ok (.aload_n 0, 1) := by decide +kernel
theorem dX9_between_31 : decode cX9_between 31 = .ok (.getfield 63, 3) := by decide +kernel
theorem dX9_between_34 : decode cX9_between 34 = .ok (.iload_n 1, 1) := by decide +kernel
theorem dX9_between_35 : decode cX9_between 35 = .ok (.iload_n 2, 1) := by decide +kernel
theorem dX9_between_36 : decode cX9_between 36 = .ok (.invokevirtual 155, 3) := by decide +kernel
theorem dX9_between_39 : decode cX9_between 39 = .ok (.aload_n 0, 1) := by decide +kernel
theorem dX9_between_40 : decode cX9_between 40 = .ok (.getfield 49, 3) := by decide +kernel
theorem dX9_between_43 : decode cX9_between 43 = .ok (.aload_n 0, 1) := by decide +kernel
theorem dX9_between_44 : decode cX9_between 44 = .ok (.getfield 63, 3) := by decide +kernel
theorem dX9_between_47 : decode cX9_between 47 = .ok (.aload_n 0, 1) := by decide +kernel
theorem dX9_between_48 : decode cX9_between 48 = .ok (.getfield 32, 3) := by decide +kernel
theorem dX9_between_51 : decode cX9_between 51 = .ok (.invokevirtual 172, 3) := by decide +kernel
theorem dX9_between_54 : decode cX9_between 54 = .ok (.istore_n 3, 1) := by decide +kernel
theorem dX9_between_55 : decode cX9_between 55 = .ok (.aload_n 0, 1) := by decide +kernel
theorem dX9_between_56 : decode cX9_between 56 = .ok (.getfield 32, 3) := by decide +kernel
theorem dX9_between_59 : decode cX9_between 59 = .ok (.invokevirtual 165, 3) := by decide +kernel
theorem dX9_between_62 : decode cX9_between 62 = .ok (.aload_n 0, 1) := by decide +kernel
theorem dX9_between_63 : decode cX9_between 63 = .ok (.getfield 63, 3) := by decide +kernel
theorem dX9_between_66 : decode cX9_between 66 = .ok (.invokevirtual 108, 3) := by decide +kernel
theorem dX9_between_69 : decode cX9_between 69 = .ok (.iconst (-1), 1) := by decide +kernel
theorem dX9_between_70 : decode cX9_between 70 = .ok (.ixor, 1) := by decide +kernel
theorem dX9_between_71 : decode cX9_between 71 = .ok (.iand, 1) := by decide +kernel
theorem dX9_between_72 : decode cX9_between 72 = .ok (.ifCond .ne 7, 3) := by decide +kernel
theorem dX9_between_75 : decode cX9_between 75 = .ok (.iconst 1, 1) := by decide +kernel
theorem dX9_between_76 : decode cX9_between 76 = .ok (.goto 4, 3) := by decide +kernel
theorem dX9_between_79 : decode cX9_between 79 = .ok (.iconst 0, 1) := by decide +kernel
theorem dX9_between_80 : decode cX9_between 80 = .ok (.istore 4, 2) := by decide +kernel
theorem dX9_between_82 : decode cX9_between 82 = .ok (.iload 4, 2) := by decide +kernel
theorem dX9_between_84 : decode cX9_between 84 = .ok (.ifCond .eq 9, 3) := by decide +kernel
theorem dX9_between_87 : decode cX9_between 87 = .ok (.iload_n 3, 1) := by decide +kernel
theorem dX9_between_88 : decode cX9_between 88 = .ok (.iconst 4, 1) := by decide +kernel
theorem dX9_between_89 : decode cX9_between 89 = .ok (.ior, 1) := by decide +kernel
theorem dX9_between_90 : decode cX9_between 90 = .ok (.goto 4, 3) := by decide +kernel
theorem dX9_between_93 : decode cX9_between 93 = .ok (.iload_n 3, 1) := by decide +kernel
theorem dX9_between_94 : decode cX9_between 94 = .ok (.ireturn, 1) := by decide +kernel
set_option maxRecDepth 20000 in
theorem ggX9_saysMore_X5_has : GoodIn wsX9_saysMore wsX5_has := goodIn_r _ [10, 11, 79, 80, 81, 82, 83] (by decide +kernel) (by decide +kernel)
set_option maxRecDepth 20000 in
theorem gX9_saysMore_X5_has : GoodIn wsX9_saysMore (wsV RX9 124 RX5 yX5_has wsX5_has) := goodIn_app (goodIn_of _ (by decide +kernel)) ggX9_saysMore_X5_has
set_option maxRecDepth 20000 in
theorem ggX9_saysMore_X9_isSystem : GoodIn wsX9_saysMore wsX9_isSystem := goodIn_r _ [15, 16, 17, 14, 18] (by decide +kernel) (by decide +kernel)
set_option maxRecDepth 20000 in
theorem gX9_saysMore_X9_isSystem : GoodIn wsX9_saysMore (va_wsS RX9 152 yX9_isSystem wsX9_isSystem) := goodIn_app (goodIn_of _ (by decide +kernel)) ggX9_saysMore_X9_isSystem
set_option maxRecDepth 20000 in
theorem ggX9_saysMore_X4_read : GoodIn wsX9_saysMore wsX4_read := goodIn_r _ [23, 24, 25, 26, 27, 28, 22, 29, 30, 31, 32, 33, 9, 34, 35, 36, 37, 38, 39, 40, 41, 42, 43, 44, 45, 46, 47, 48, 49, 50, 51, 52, 53, 54, 55, 56, 57, 58, 59, 84, 85, 79, 80, 81, 82, 83] (by decide +kernel) (by decide +kernel)
set_option maxRecDepth 20000 in
theorem gX9_saysMore_X4_read : GoodIn wsX9_saysMore (wsV RX9 155 RX4 yX4_read wsX4_read) := goodIn_app (goodIn_of _ (by decide +kernel)) ggX9_saysMore_X4_read
set_option maxRecDepth 20000 in
theorem ggX9_saysMore_X4_isSoOnlyWhere : GoodIn wsX9_saysMore wsX4_isSoOnlyWhere := goodIn_r _ [63, 30, 64, 65, 66, 22, 67, 24, 26, 84, 85] (by decide +kernel) (by decide +kernel)
set_option maxRecDepth 20000 in
theorem gX9_saysMore_X4_isSoOnlyWhere : GoodIn wsX9_saysMore (wsV RX9 176 RX4 yX4_isSoOnlyWhere wsX4_isSoOnlyWhere) := goodIn_app (goodIn_of _ (by decide +kernel)) ggX9_saysMore_X4_isSoOnlyWhere
theorem dX9_saysMore_0 : decode cX9_saysMore 0 = .ok (.aload_n 0, 1) := by decide +kernel
theorem dX9_saysMore_1 : decode cX9_saysMore 1 = .ok (.getfield 63, 3) := by decide +kernel
theorem dX9_saysMore_4 : decode cX9_saysMore 4 = .ok (.iload_n 1, 1) := by decide +kernel
theorem dX9_saysMore_5 : decode cX9_saysMore 5 = .ok (.invokevirtual 124, 3) := by decide +kernel
theorem dX9_saysMore_8 : decode cX9_saysMore 8 = .ok (.ifCond .ne 6, 3) := by decide +kernel
theorem dX9_saysMore_11 : decode cX9_saysMore 11 = .ok (.ldc 123, 2) := by decide +kernel
theorem dX9_saysMore_13 : decode cX9_saysMore 13 = .ok (.ireturn, 1) := by decide +kernel
theorem dX9_saysMore_14 : decode cX9_saysMore 14 = .ok (.iload_n 2, 1) := by decide +kernel
theorem dX9_saysMore_15 : decode cX9_saysMore 15 = .ok (.invokestatic 152, 3) := by decide +kernel
theorem dX9_saysMore_18 : decode cX9_saysMore 18 = .ok (.ifCond .eq 10, 3) := by decide +kernel
theorem dX9_saysMore_21 : decode cX9_saysMore 21 = .ok (.iload_n 3, 1) := by decide +kernel
theorem dX9_saysMore_22 : decode cX9_saysMore 22 = .ok (.invokestatic 152, 3) := by decide +kernel
theorem dX9_saysMore_25 : decode cX9_saysMore 25 = .ok (.ifCond .ne 6, 3) := by decide +kernel
theorem dX9_saysMore_28 : decode cX9_saysMore 28 = .ok (.ldc 79, 2) := by decide +kernel
theorem dX9_saysMore_30 : decode cX9_saysMore 30 = .ok (.ireturn, 1) := by decide +kernel
theorem dX9_saysMore_31 : decode cX9_saysMore 31 = .ok (.aload_n 0, 1) := by decide +kernel
theorem dX9_saysMore_32 : decode cX9_saysMore 32 = .ok (.getfield 32, 3) := by decide +kernel
theorem dX9_saysMore_35 : decode cX9_saysMore 35 = .ok (.aload_n 0, 1) := by decide +kernel
theorem dX9_saysMore_36 : decode cX9_saysMore 36 = .ok (.getfield 63, 3) := by decide +kernel
theorem dX9_saysMore_39 : decode cX9_saysMore 39 = .ok (.iload_n 2, 1) := by decide +kernel
theorem dX9_saysMore_40 : decode cX9_saysMore 40 = .ok (.iload_n 1, 1) := by decide +kernel
theorem dX9_saysMore_41 : decode cX9_saysMore 41 = .ok (.invokevirtual 155, 3) := by decide +kernel
theorem dX9_saysMore_44 : decode cX9_saysMore 44 = .ok (.aload_n 0, 1) := by decide +kernel
theorem dX9_saysMore_45 : decode cX9_saysMore 45 = .ok (.getfield 36, 3) := by decide +kernel
theorem dX9_saysMore_48 : decode cX9_saysMore 48 = .ok (.aload_n 0, 1) := by decide +kernel
theorem dX9_saysMore_49 : decode cX9_saysMore 49 = .ok (.getfield 63, 3) := by decide +kernel
theorem dX9_saysMore_52 : decode cX9_saysMore 52 = .ok (.iload_n 3, 1) := by decide +kernel
theorem dX9_saysMore_53 : decode cX9_saysMore 53 = .ok (.iload_n 1, 1) := by decide +kernel
theorem dX9_saysMore_54 : decode cX9_saysMore 54 = .ok (.invokevirtual 155, 3) := by decide +kernel
theorem dX9_saysMore_57 : decode cX9_saysMore 57 = .ok (.aload_n 0, 1) := by decide +kernel
theorem dX9_saysMore_58 : decode cX9_saysMore 58 = .ok (.getfield 32, 3) := by decide +kernel
theorem dX9_saysMore_61 : decode cX9_saysMore 61 = .ok (.aload_n 0, 1) := by decide +kernel
theorem dX9_saysMore_62 : decode cX9_saysMore 62 = .ok (.getfield 36, 3) := by decide +kernel
theorem dX9_saysMore_65 : decode cX9_saysMore 65 = .ok (.invokevirtual 176, 3) := by decide +kernel
theorem dX9_saysMore_68 : decode cX9_saysMore 68 = .ok (.ifCond .eq 7, 3) := by decide +kernel
theorem dX9_saysMore_71 : decode cX9_saysMore 71 = .ok (.iconst 1, 1) := by decide +kernel
theorem dX9_saysMore_72 : decode cX9_saysMore 72 = .ok (.goto 4, 3) := by decide +kernel
theorem dX9_saysMore_75 : decode cX9_saysMore 75 = .ok (.iconst 0, 1) := by decide +kernel
theorem dX9_saysMore_76 : decode cX9_saysMore 76 = .ok (.ireturn, 1) := by decide +kernel
set_option maxRecDepth 20000 in
theorem ggX9_needless_X5_firstEmpty : GoodIn wsX9_needless wsX5_firstEmpty := goodIn_r _ [7, 8, 9, 10, 11, 6, 12, 13, 14, 15, 16, 17, 34, 35, 36, 37, 38] (by decide +kernel) (by decide +kernel)
set_option maxRecDepth 20000 in
theorem gX9_needless_X5_firstEmpty : GoodIn wsX9_needless (wsV RX9 104 RX5 yX5_firstEmpty wsX5_firstEmpty) := goodIn_app (goodIn_of _ (by decide +kernel)) ggX9_needless_X5_firstEmpty
set_option maxRecDepth 20000 in
theorem ggX9_needless_X5_madeButNotFor : GoodIn wsX9_needless wsX5_madeButNotFor := goodIn_r _ [21, 22, 8, 13, 14, 15, 6, 16, 17, 34, 35, 36, 37, 38] (by decide +kernel) (by decide +kernel)
set_option maxRecDepth 20000 in
theorem gX9_needless_X5_madeButNotFor : GoodIn wsX9_needless (wsV RX9 180 RX5 yX5_madeButNotFor wsX5_madeButNotFor) := goodIn_app (goodIn_of _ (by decide +kernel)) ggX9_needless_X5_madeButNotFor
theorem dX9_needless_0 : decode cX9_needless 0 = .ok (.aload_n 0, 1) := by decide +kernel
theorem dX9_needless_1 : decode cX9_needless 1 = .ok (.getfield 63, 3) := by decide +kernel
theorem dX9_needless_4 : decode cX9_needless 4 = .ok (.invokevirtual 104, 3) := by decide +kernel
theorem dX9_needless_7 : decode cX9_needless 7 = .ok (.istore_n 1, 1) := by decide +kernel
theorem dX9_needless_8 : decode cX9_needless 8 = .ok (.iload_n 1, 1) := by decide +kernel
theorem dX9_needless_9 : decode cX9_needless 9 = .ok (.iconst (-1), 1) := by decide +kernel
theorem dX9_needless_10 : decode cX9_needless 10 = .ok (.if_icmp .ne 8, 3) := by decide +kernel
theorem dX9_needless_13 : decode cX9_needless 13 = .ok (.ldc 134, 2) := by decide +kernel
theorem dX9_needless_15 : decode cX9_needless 15 = .ok (.goto 11, 3) := by decide +kernel
theorem dX9_needless_18 : decode cX9_needless 18 = .ok (.aload_n 0, 1) := by decide +kernel
theorem dX9_needless_19 : decode cX9_needless 19 = .ok (.getfield 63, 3) := by decide +kernel
theorem dX9_needless_22 : decode cX9_needless 22 = .ok (.iload_n 1, 1) := by decide +kernel
theorem dX9_needless_23 : decode cX9_needless 23 = .ok (.invokevirtual 180, 3) := by decide +kernel
theorem dX9_needless_26 : decode cX9_needless 26 = .ok (.ireturn, 1) := by decide +kernel
set_option maxRecDepth 20000 in
theorem ggX9_sum_X9_within : GoodIn wsX9_sum wsX9_within := goodIn_r _ [8] (by decide +kernel) (by decide +kernel)
set_option maxRecDepth 20000 in
theorem gX9_sum_X9_within : GoodIn wsX9_sum (va_wsS RX9 75 yX9_within wsX9_within) := goodIn_app (goodIn_of _ (by decide +kernel)) ggX9_sum_X9_within
set_option maxRecDepth 20000 in
theorem ggX9_sum_X9_isNumber : GoodIn wsX9_sum wsX9_isNumber := goodIn_r _ [11, 5, 6, 7, 8] (by decide +kernel) (by decide +kernel)
set_option maxRecDepth 20000 in
theorem gX9_sum_X9_isNumber : GoodIn wsX9_sum (va_wsS RX9 183 yX9_isNumber wsX9_isNumber) := goodIn_app (goodIn_of _ (by decide +kernel)) ggX9_sum_X9_isNumber
set_option maxRecDepth 20000 in
theorem ggX9_sum_X6_add : GoodIn wsX9_sum wsX6_add := goodIn_r _ [16, 17, 18, 19, 20, 32, 33, 34, 35, 36, 37, 38, 39] (by decide +kernel) (by decide +kernel)
set_option maxRecDepth 20000 in
theorem gX9_sum_X6_add : GoodIn wsX9_sum (wsV RX9 186 RX6 yX6_add wsX6_add) := goodIn_app (goodIn_of _ (by decide +kernel)) ggX9_sum_X6_add
theorem dX9_sum_0 : decode cX9_sum 0 = .ok (.iload_n 1, 1) := by decide +kernel
theorem dX9_sum_1 : decode cX9_sum 1 = .ok (.iconst 0, 1) := by decide +kernel
theorem dX9_sum_2 : decode cX9_sum 2 = .ok (.iconst 1, 1) := by decide +kernel
theorem dX9_sum_3 : decode cX9_sum 3 = .ok (.invokestatic 75, 3) := by decide +kernel
theorem dX9_sum_6 : decode cX9_sum 6 = .ok (.ifCond .eq 45, 3) := by decide +kernel
theorem dX9_sum_9 : decode cX9_sum 9 = .ok (.iload_n 2, 1) := by decide +kernel
theorem dX9_sum_10 : decode cX9_sum 10 = .ok (.invokestatic 183, 3) := by decide +kernel
theorem dX9_sum_13 : decode cX9_sum 13 = .ok (.ifCond .eq 38, 3) := by decide +kernel
theorem dX9_sum_16 : decode cX9_sum 16 = .ok (.iload_n 3, 1) := by decide +kernel
theorem dX9_sum_17 : decode cX9_sum 17 = .ok (.invokestatic 183, 3) := by decide +kernel
theorem dX9_sum_20 : decode cX9_sum 20 = .ok (.ifCond .eq 31, 3) := by decide +kernel
theorem dX9_sum_23 : decode cX9_sum 23 = .ok (.iload 4, 2) := by decide +kernel
theorem dX9_sum_25 : decode cX9_sum 25 = .ok (.invokestatic 183, 3) := by decide +kernel
theorem dX9_sum_28 : decode cX9_sum 28 = .ok (.ifCond .eq 23, 3) := by decide +kernel
theorem dX9_sum_31 : decode cX9_sum 31 = .ok (.iload 5, 2) := by decide +kernel
theorem dX9_sum_33 : decode cX9_sum 33 = .ok (.invokestatic 183, 3) := by decide +kernel
theorem dX9_sum_36 : decode cX9_sum 36 = .ok (.ifCond .eq 15, 3) := by decide +kernel
theorem dX9_sum_39 : decode cX9_sum 39 = .ok (.iload 6, 2) := by decide +kernel
theorem dX9_sum_41 : decode cX9_sum 41 = .ok (.bipush (-99), 2) := by decide +kernel
theorem dX9_sum_43 : decode cX9_sum 43 = .ok (.bipush 99, 2) := by decide +kernel
theorem dX9_sum_45 : decode cX9_sum 45 = .ok (.invokestatic 75, 3) := by decide +kernel
theorem dX9_sum_48 : decode cX9_sum 48 = .ok (.ifCond .ne 6, 3) := by decide +kernel
theorem dX9_sum_51 : decode cX9_sum 51 = .ok (.ldc 79, 2) := by decide +kernel
theorem dX9_sum_53 : decode cX9_sum 53 = .ok (.ireturn, 1) := by decide +kernel
theorem dX9_sum_54 : decode cX9_sum 54 = .ok (.aload_n 0, 1) := by decide +kernel
theorem dX9_sum_55 : decode cX9_sum 55 = .ok (.getfield 56, 3) := by decide +kernel
theorem dX9_sum_58 : decode cX9_sum 58 = .ok (.getfield 118, 3) := by decide +kernel
theorem dX9_sum_61 : decode cX9_sum 61 = .ok (.bipush 8, 2) := by decide +kernel
theorem dX9_sum_63 : decode cX9_sum 63 = .ok (.if_icmp .lt 6, 3) := by decide +kernel
theorem dX9_sum_66 : decode cX9_sum 66 = .ok (.ldc 87, 2) := by decide +kernel
theorem dX9_sum_68 : decode cX9_sum 68 = .ok (.ireturn, 1) := by decide +kernel
theorem dX9_sum_69 : decode cX9_sum 69 = .ok (.aload_n 0, 1) := by decide +kernel
theorem dX9_sum_70 : decode cX9_sum 70 = .ok (.getfield 56, 3) := by decide +kernel
theorem dX9_sum_73 : decode cX9_sum 73 = .ok (.iload_n 1, 1) := by decide +kernel
theorem dX9_sum_74 : decode cX9_sum 74 = .ok (.iload_n 2, 1) := by decide +kernel
theorem dX9_sum_75 : decode cX9_sum 75 = .ok (.iload_n 3, 1) := by decide +kernel
theorem dX9_sum_76 : decode cX9_sum 76 = .ok (.iload 4, 2) := by decide +kernel
theorem dX9_sum_78 : decode cX9_sum 78 = .ok (.iload 5, 2) := by decide +kernel
theorem dX9_sum_80 : decode cX9_sum 80 = .ok (.iload 6, 2) := by decide +kernel
theorem dX9_sum_82 : decode cX9_sum 82 = .ok (.invokevirtual 186, 3) := by decide +kernel
theorem dX9_sum_85 : decode cX9_sum 85 = .ok (.ireturn, 1) := by decide +kernel
set_option maxRecDepth 20000 in
theorem ggX9_weigh_X9_within : GoodIn wsX9_weigh wsX9_within := goodIn_r _ [9] (by decide +kernel) (by decide +kernel)
set_option maxRecDepth 20000 in
theorem gX9_weigh_X9_within : GoodIn wsX9_weigh (va_wsS RX9 75 yX9_within wsX9_within) := goodIn_app (goodIn_of _ (by decide +kernel)) ggX9_weigh_X9_within
theorem dX9_weigh_0 : decode cX9_weigh 0 = .ok (.iload_n 1, 1) := by decide +kernel
theorem dX9_weigh_1 : decode cX9_weigh 1 = .ok (.iconst 0, 1) := by decide +kernel
theorem dX9_weigh_2 : decode cX9_weigh 2 = .ok (.aload_n 0, 1) := by decide +kernel
theorem dX9_weigh_3 : decode cX9_weigh 3 = .ok (.getfield 56, 3) := by decide +kernel
theorem dX9_weigh_6 : decode cX9_weigh 6 = .ok (.getfield 118, 3) := by decide +kernel
theorem dX9_weigh_9 : decode cX9_weigh 9 = .ok (.iconst 1, 1) := by decide +kernel
theorem dX9_weigh_10 : decode cX9_weigh 10 = .ok (.isub, 1) := by decide +kernel
theorem dX9_weigh_11 : decode cX9_weigh 11 = .ok (.invokestatic 75, 3) := by decide +kernel
theorem dX9_weigh_14 : decode cX9_weigh 14 = .ok (.ifCond .ne 6, 3) := by decide +kernel
theorem dX9_weigh_17 : decode cX9_weigh 17 = .ok (.ldc 123, 2) := by decide +kernel
theorem dX9_weigh_19 : decode cX9_weigh 19 = .ok (.ireturn, 1) := by decide +kernel
theorem dX9_weigh_20 : decode cX9_weigh 20 = .ok (.iload_n 2, 1) := by decide +kernel
theorem dX9_weigh_21 : decode cX9_weigh 21 = .ok (.iconst 0, 1) := by decide +kernel
theorem dX9_weigh_22 : decode cX9_weigh 22 = .ok (.bipush 20, 2) := by decide +kernel
theorem dX9_weigh_24 : decode cX9_weigh 24 = .ok (.invokestatic 75, 3) := by decide +kernel
theorem dX9_weigh_27 : decode cX9_weigh 27 = .ok (.ifCond .ne 6, 3) := by decide +kernel
theorem dX9_weigh_30 : decode cX9_weigh 30 = .ok (.ldc 79, 2) := by decide +kernel
theorem dX9_weigh_32 : decode cX9_weigh 32 = .ok (.ireturn, 1) := by decide +kernel
theorem dX9_weigh_33 : decode cX9_weigh 33 = .ok (.aload_n 0, 1) := by decide +kernel
theorem dX9_weigh_34 : decode cX9_weigh 34 = .ok (.getfield 56, 3) := by decide +kernel
theorem dX9_weigh_37 : decode cX9_weigh 37 = .ok (.getfield 189, 3) := by decide +kernel
theorem dX9_weigh_40 : decode cX9_weigh 40 = .ok (.iload_n 1, 1) := by decide +kernel
theorem dX9_weigh_41 : decode cX9_weigh 41 = .ok (.iaload, 1) := by decide +kernel
theorem dX9_weigh_42 : decode cX9_weigh 42 = .ok (.istore_n 3, 1) := by decide +kernel
theorem dX9_weigh_43 : decode cX9_weigh 43 = .ok (.aload_n 0, 1) := by decide +kernel
theorem dX9_weigh_44 : decode cX9_weigh 44 = .ok (.getfield 56, 3) := by decide +kernel
theorem dX9_weigh_47 : decode cX9_weigh 47 = .ok (.getfield 189, 3) := by decide +kernel
theorem dX9_weigh_50 : decode cX9_weigh 50 = .ok (.iload_n 1, 1) := by decide +kernel
theorem dX9_weigh_51 : decode cX9_weigh 51 = .ok (.iload_n 2, 1) := by decide +kernel
theorem dX9_weigh_52 : decode cX9_weigh 52 = .ok (.iastore, 1) := by decide +kernel
theorem dX9_weigh_53 : decode cX9_weigh 53 = .ok (.iload_n 3, 1) := by decide +kernel
theorem dX9_weigh_54 : decode cX9_weigh 54 = .ok (.ireturn, 1) := by decide +kernel
set_option maxRecDepth 20000 in
theorem ggX9_weighed_X9_within : GoodIn wsX9_weighed wsX9_within := goodIn_r _ [6] (by decide +kernel) (by decide +kernel)
set_option maxRecDepth 20000 in
theorem gX9_weighed_X9_within : GoodIn wsX9_weighed (va_wsS RX9 75 yX9_within wsX9_within) := goodIn_app (goodIn_of _ (by decide +kernel)) ggX9_weighed_X9_within
set_option maxRecDepth 20000 in
theorem ggX9_weighed_X6_whole : GoodIn wsX9_weighed wsX6_whole := goodIn_r _ [11, 12, 13, 14, 31, 32, 33, 34, 35, 36, 37, 38] (by decide +kernel) (by decide +kernel)
set_option maxRecDepth 20000 in
theorem gX9_weighed_X6_whole : GoodIn wsX9_weighed (wsV RX9 193 RX6 yX6_whole wsX6_whole) := goodIn_app (goodIn_of _ (by decide +kernel)) ggX9_weighed_X6_whole
set_option maxRecDepth 20000 in
theorem ggX9_weighed_X6_middle : GoodIn wsX9_weighed wsX6_middle := goodIn_r _ [18, 12, 19, 13, 14, 31, 32, 33, 34, 35, 36, 37, 38] (by decide +kernel) (by decide +kernel)
set_option maxRecDepth 20000 in
theorem gX9_weighed_X6_middle : GoodIn wsX9_weighed (wsV RX9 196 RX6 yX6_middle wsX6_middle) := goodIn_app (goodIn_of _ (by decide +kernel)) ggX9_weighed_X6_middle
theorem dX9_weighed_0 : decode cX9_weighed 0 = .ok (.iload_n 1, 1) := by decide +kernel
theorem dX9_weighed_1 : decode cX9_weighed 1 = .ok (.iconst 0, 1) := by decide +kernel
theorem dX9_weighed_2 : decode cX9_weighed 2 = .ok (.iconst 1, 1) := by decide +kernel
theorem dX9_weighed_3 : decode cX9_weighed 3 = .ok (.invokestatic 75, 3) := by decide +kernel
theorem dX9_weighed_6 : decode cX9_weighed 6 = .ok (.ifCond .eq 12, 3) := by decide +kernel
theorem dX9_weighed_9 : decode cX9_weighed 9 = .ok (.iload_n 2, 1) := by decide +kernel
theorem dX9_weighed_10 : decode cX9_weighed 10 = .ok (.iconst 0, 1) := by decide +kernel
theorem dX9_weighed_11 : decode cX9_weighed 11 = .ok (.iconst 4, 1) := by decide +kernel
theorem dX9_weighed_12 : decode cX9_weighed 12 = .ok (.invokestatic 75, 3) := by decide +kernel
theorem dX9_weighed_15 : decode cX9_weighed 15 = .ok (.ifCond .ne 6, 3) := by decide +kernel
theorem dX9_weighed_18 : decode cX9_weighed 18 = .ok (.ldc 79, 2) := by decide +kernel
theorem dX9_weighed_20 : decode cX9_weighed 20 = .ok (.ireturn, 1) := by decide +kernel
theorem dX9_weighed_21 : decode cX9_weighed 21 = .ok (.iload_n 1, 1) := by decide +kernel
theorem dX9_weighed_22 : decode cX9_weighed 22 = .ok (.ifCond .ne 14, 3) := by decide +kernel
theorem dX9_weighed_25 : decode cX9_weighed 25 = .ok (.aload_n 0, 1) := by decide +kernel
theorem dX9_weighed_26 : decode cX9_weighed 26 = .ok (.getfield 56, 3) := by decide +kernel
theorem dX9_weighed_29 : decode cX9_weighed 29 = .ok (.iload_n 2, 1) := by decide +kernel
theorem dX9_weighed_30 : decode cX9_weighed 30 = .ok (.invokevirtual 193, 3) := by decide +kernel
theorem dX9_weighed_33 : decode cX9_weighed 33 = .ok (.goto 11, 3) := by decide +kernel
theorem dX9_weighed_36 : decode cX9_weighed 36 = .ok (.aload_n 0, 1) := by decide +kernel
theorem dX9_weighed_37 : decode cX9_weighed 37 = .ok (.getfield 56, 3) := by decide +kernel
theorem dX9_weighed_40 : decode cX9_weighed 40 = .ok (.iload_n 2, 1) := by decide +kernel
theorem dX9_weighed_41 : decode cX9_weighed 41 = .ok (.invokevirtual 196, 3) := by decide +kernel
theorem dX9_weighed_44 : decode cX9_weighed 44 = .ok (.ireturn, 1) := by decide +kernel
set_option maxRecDepth 20000 in
theorem ggX9_sums_X6_refuted : GoodIn wsX9_sums wsX6_refuted := goodIn_r _ [7, 8, 9, 10, 6, 11, 12, 13, 14, 43, 44, 45, 46, 47, 48, 49, 50] (by decide +kernel) (by decide +kernel)
set_option maxRecDepth 20000 in
theorem gX9_sums_X6_refuted : GoodIn wsX9_sums (wsV RX9 199 RX6 yX6_refuted wsX6_refuted) := goodIn_app (goodIn_of _ (by decide +kernel)) ggX9_sums_X6_refuted
set_option maxRecDepth 20000 in
theorem ggX9_sums_X6_freeUnknowns : GoodIn wsX9_sums wsX6_freeUnknowns := goodIn_r _ [18, 19, 20, 21, 6, 22, 12, 23, 13, 43, 44, 45, 46, 47, 48, 49, 50] (by decide +kernel) (by decide +kernel)
set_option maxRecDepth 20000 in
theorem gX9_sums_X6_freeUnknowns : GoodIn wsX9_sums (wsV RX9 202 RX6 yX6_freeUnknowns wsX6_freeUnknowns) := goodIn_app (goodIn_of _ (by decide +kernel)) ggX9_sums_X6_freeUnknowns
set_option maxRecDepth 20000 in
theorem ggX9_sums_X6_middleUnknowns : GoodIn wsX9_sums wsX6_middleUnknowns := goodIn_r _ [27, 28, 29, 30, 6, 31, 12, 23, 13, 14, 43, 44, 45, 46, 47, 48, 49, 50] (by decide +kernel) (by decide +kernel)
set_option maxRecDepth 20000 in
theorem gX9_sums_X6_middleUnknowns : GoodIn wsX9_sums (wsV RX9 205 RX6 yX6_middleUnknowns wsX6_middleUnknowns) := goodIn_app (goodIn_of _ (by decide +kernel)) ggX9_sums_X6_middleUnknowns
theorem dX9_sums_0 : decode cX9_sums 0 = .ok (.iload_n 1, 1) := by decide +kernel
theorem dX9_sums_1 : decode cX9_sums 1 = .ok (.tableswitch 89 0 3 #[31, 47, 55, 63], 31) := by decide +kernel
theorem dX9_sums_32 : decode cX9_sums 32 = .ok (.aload_n 0, 1) := by decide +kernel
theorem dX9_sums_33 : decode cX9_sums 33 = .ok (.getfield 56, 3) := by decide +kernel
theorem dX9_sums_36 : decode cX9_sums 36 = .ok (.invokevirtual 199, 3) := by decide +kernel
theorem dX9_sums_39 : decode cX9_sums 39 = .ok (.ifCond .eq 7, 3) := by decide +kernel
theorem dX9_sums_42 : decode cX9_sums 42 = .ok (.iconst 1, 1) := by decide +kernel
theorem dX9_sums_43 : decode cX9_sums 43 = .ok (.goto 4, 3) := by decide +kernel
theorem dX9_sums_46 : decode cX9_sums 46 = .ok (.iconst 0, 1) := by decide +kernel
theorem dX9_sums_47 : decode cX9_sums 47 = .ok (.ireturn, 1) := by decide +kernel
theorem dX9_sums_48 : decode cX9_sums 48 = .ok (.aload_n 0, 1) := by decide +kernel
theorem dX9_sums_49 : decode cX9_sums 49 = .ok (.getfield 56, 3) := by decide +kernel
theorem dX9_sums_52 : decode cX9_sums 52 = .ok (.invokevirtual 202, 3) := by decide +kernel
theorem dX9_sums_55 : decode cX9_sums 55 = .ok (.ireturn, 1) := by decide +kernel
theorem dX9_sums_56 : decode cX9_sums 56 = .ok (.aload_n 0, 1) := by decide +kernel
theorem dX9_sums_57 : decode cX9_sums 57 = .ok (.getfield 56, 3) := by decide +kernel
theorem dX9_sums_60 : decode cX9_sums 60 = .ok (.invokevirtual 205, 3) := by decide +kernel
theorem dX9_sums_63 : decode cX9_sums 63 = .ok (.ireturn, 1) := by decide +kernel
theorem dX9_sums_64 : decode cX9_sums 64 = .ok (.aload_n 0, 1) := by decide +kernel
theorem dX9_sums_65 : decode cX9_sums 65 = .ok (.getfield 56, 3) := by decide +kernel
theorem dX9_sums_68 : decode cX9_sums 68 = .ok (.invokevirtual 205, 3) := by decide +kernel
theorem dX9_sums_71 : decode cX9_sums 71 = .ok (.aload_n 0, 1) := by decide +kernel
theorem dX9_sums_72 : decode cX9_sums 72 = .ok (.getfield 56, 3) := by decide +kernel
theorem dX9_sums_75 : decode cX9_sums 75 = .ok (.invokevirtual 202, 3) := by decide +kernel
theorem dX9_sums_78 : decode cX9_sums 78 = .ok (.iconst (-1), 1) := by decide +kernel
theorem dX9_sums_79 : decode cX9_sums 79 = .ok (.ixor, 1) := by decide +kernel
theorem dX9_sums_80 : decode cX9_sums 80 = .ok (.iand, 1) := by decide +kernel
theorem dX9_sums_81 : decode cX9_sums 81 = .ok (.ifCond .ne 7, 3) := by decide +kernel
theorem dX9_sums_84 : decode cX9_sums 84 = .ok (.iconst 1, 1) := by decide +kernel
theorem dX9_sums_85 : decode cX9_sums 85 = .ok (.goto 4, 3) := by decide +kernel
theorem dX9_sums_88 : decode cX9_sums 88 = .ok (.iconst 0, 1) := by decide +kernel
theorem dX9_sums_89 : decode cX9_sums 89 = .ok (.ireturn, 1) := by decide +kernel
theorem dX9_sums_90 : decode cX9_sums 90 = .ok (.ldc 79, 2) := by decide +kernel
theorem dX9_sums_92 : decode cX9_sums 92 = .ok (.ireturn, 1) := by decide +kernel
set_option maxRecDepth 20000 in
theorem ggX9_seekWeights_X9_within : GoodIn wsX9_seekWeights wsX9_within := goodIn_r _ [7] (by decide +kernel) (by decide +kernel)
set_option maxRecDepth 20000 in
theorem gX9_seekWeights_X9_within : GoodIn wsX9_seekWeights (va_wsS RX9 75 yX9_within wsX9_within) := goodIn_app (goodIn_of _ (by decide +kernel)) ggX9_seekWeights_X9_within
set_option maxRecDepth 20000 in
theorem ggX9_seekWeights_X6_findLeastWeights : GoodIn wsX9_seekWeights wsX6_findLeastWeights := goodIn_r _ [12, 13, 14, 15, 16, 17, 18, 19, 20, 21, 22, 11, 23, 24, 25, 26, 27, 28, 29, 30, 31, 32, 33, 34, 35, 36, 37, 38, 39, 40, 41, 42, 43, 44, 45, 57, 58, 59, 60, 61, 62, 63, 64] (by decide +kernel) (by decide +kernel)
set_option maxRecDepth 20000 in
theorem gX9_seekWeights_X6_findLeastWeights : GoodIn wsX9_seekWeights (wsV RX9 208 RX6 yX6_findLeastWeights wsX6_findLeastWeights) := goodIn_app (goodIn_of _ (by decide +kernel)) ggX9_seekWeights_X6_findLeastWeights
theorem dX9_seekWeights_0 : decode cX9_seekWeights 0 = .ok (.aload_n 0, 1) := by decide +kernel
theorem dX9_seekWeights_1 : decode cX9_seekWeights 1 = .ok (.getfield 56, 3) := by decide +kernel
theorem dX9_seekWeights_4 : decode cX9_seekWeights 4 = .ok (.getfield 118, 3) := by decide +kernel
theorem dX9_seekWeights_7 : decode cX9_seekWeights 7 = .ok (.iconst 1, 1) := by decide +kernel
theorem dX9_seekWeights_8 : decode cX9_seekWeights 8 = .ok (.bipush 6, 2) := by decide +kernel
theorem dX9_seekWeights_10 : decode cX9_seekWeights 10 = .ok (.invokestatic 75, 3) := by decide +kernel
theorem dX9_seekWeights_13 : decode cX9_seekWeights 13 = .ok (.ifCond .ne 6, 3) := by decide +kernel
theorem dX9_seekWeights_16 : decode cX9_seekWeights 16 = .ok (.ldc 134, 2) := by decide +kernel
theorem dX9_seekWeights_18 : decode cX9_seekWeights 18 = .ok (.ireturn, 1) := by decide +kernel
theorem dX9_seekWeights_19 : decode cX9_seekWeights 19 = .ok (.aload_n 0, 1) := by decide +kernel
theorem dX9_seekWeights_20 : decode cX9_seekWeights 20 = .ok (.getfield 56, 3) := by decide +kernel
theorem dX9_seekWeights_23 : decode cX9_seekWeights 23 = .ok (.invokevirtual 208, 3) := by decide +kernel
theorem dX9_seekWeights_26 : decode cX9_seekWeights 26 = .ok (.ireturn, 1) := by decide +kernel
theorem dX9_clear_0 : decode cX9_clear 0 = .ok (.aload_n 0, 1) := by decide +kernel
theorem dX9_clear_1 : decode cX9_clear 1 = .ok (.getfield 56, 3) := by decide +kernel
theorem dX9_clear_4 : decode cX9_clear 4 = .ok (.getfield 118, 3) := by decide +kernel
theorem dX9_clear_7 : decode cX9_clear 7 = .ok (.istore_n 1, 1) := by decide +kernel
theorem dX9_clear_8 : decode cX9_clear 8 = .ok (.aload_n 0, 1) := by decide +kernel
theorem dX9_clear_9 : decode cX9_clear 9 = .ok (.getfield 56, 3) := by decide +kernel
theorem dX9_clear_12 : decode cX9_clear 12 = .ok (.iconst 0, 1) := by decide +kernel
theorem dX9_clear_13 : decode cX9_clear 13 = .ok (.putfield 118, 3) := by decide +kernel
theorem dX9_clear_16 : decode cX9_clear 16 = .ok (.iload_n 1, 1) := by decide +kernel
theorem dX9_clear_17 : decode cX9_clear 17 = .ok (.ireturn, 1) := by decide +kernel
set_option maxRecDepth 20000 in
theorem ggX9_keep_X9_within : GoodIn wsX9_keep wsX9_within := goodIn_r _ [12] (by decide +kernel) (by decide +kernel)
set_option maxRecDepth 20000 in
theorem gX9_keep_X9_within : GoodIn wsX9_keep (va_wsS RX9 75 yX9_within wsX9_within) := goodIn_app (goodIn_of _ (by decide +kernel)) ggX9_keep_X9_within
set_option maxRecDepth 20000 in
theorem ggX9_keep_X5_copyFrom : GoodIn wsX9_keep wsX5_copyFrom := goodIn_r _ [17, 18, 19, 20, 21, 22, 23, 24, 25, 26, 42, 43, 44, 45, 46] (by decide +kernel) (by decide +kernel)
set_option maxRecDepth 20000 in
theorem gX9_keep_X5_copyFrom : GoodIn wsX9_keep (wsV RX9 212 RX5 yX5_copyFrom wsX5_copyFrom) := goodIn_app (goodIn_of _ (by decide +kernel)) ggX9_keep_X5_copyFrom
theorem dX9_keep_0 : decode cX9_keep 0 = .ok (.iload_n 1, 1) := by decide +kernel
theorem dX9_keep_1 : decode cX9_keep 1 = .ok (.iconst 0, 1) := by decide +kernel
theorem dX9_keep_2 : decode cX9_keep 2 = .ok (.iconst 1, 1) := by decide +kernel
theorem dX9_keep_3 : decode cX9_keep 3 = .ok (.invokestatic 75, 3) := by decide +kernel
theorem dX9_keep_6 : decode cX9_keep 6 = .ok (.ifCond .ne 6, 3) := by decide +kernel
theorem dX9_keep_9 : decode cX9_keep 9 = .ok (.ldc 123, 2) := by decide +kernel
theorem dX9_keep_11 : decode cX9_keep 11 = .ok (.ireturn, 1) := by decide +kernel
theorem dX9_keep_12 : decode cX9_keep 12 = .ok (.aload_n 0, 1) := by decide +kernel
theorem dX9_keep_13 : decode cX9_keep 13 = .ok (.getfield 25, 3) := by decide +kernel
theorem dX9_keep_16 : decode cX9_keep 16 = .ok (.iload_n 1, 1) := by decide +kernel
theorem dX9_keep_17 : decode cX9_keep 17 = .ok (.aaload, 1) := by decide +kernel
theorem dX9_keep_18 : decode cX9_keep 18 = .ok (.getfield 211, 3) := by decide +kernel
theorem dX9_keep_21 : decode cX9_keep 21 = .ok (.aload_n 0, 1) := by decide +kernel
theorem dX9_keep_22 : decode cX9_keep 22 = .ok (.getfield 63, 3) := by decide +kernel
theorem dX9_keep_25 : decode cX9_keep 25 = .ok (.invokevirtual 212, 3) := by decide +kernel
theorem dX9_keep_28 : decode cX9_keep 28 = .ok (.aload_n 0, 1) := by decide +kernel
theorem dX9_keep_29 : decode cX9_keep 29 = .ok (.getfield 25, 3) := by decide +kernel
theorem dX9_keep_32 : decode cX9_keep 32 = .ok (.iload_n 1, 1) := by decide +kernel
theorem dX9_keep_33 : decode cX9_keep 33 = .ok (.aaload, 1) := by decide +kernel
theorem dX9_keep_34 : decode cX9_keep 34 = .ok (.iconst 1, 1) := by decide +kernel
theorem dX9_keep_35 : decode cX9_keep 35 = .ok (.putfield 96, 3) := by decide +kernel
theorem dX9_keep_38 : decode cX9_keep 38 = .ok (.aload_n 0, 1) := by decide +kernel
theorem dX9_keep_39 : decode cX9_keep 39 = .ok (.getfield 19, 3) := by decide +kernel
theorem dX9_keep_42 : decode cX9_keep 42 = .ok (.iconst 0, 1) := by decide +kernel
theorem dX9_keep_43 : decode cX9_keep 43 = .ok (.putfield 93, 3) := by decide +kernel
theorem dX9_keep_46 : decode cX9_keep 46 = .ok (.aload_n 0, 1) := by decide +kernel
theorem dX9_keep_47 : decode cX9_keep 47 = .ok (.getfield 63, 3) := by decide +kernel
theorem dX9_keep_50 : decode cX9_keep 50 = .ok (.getfield 100, 3) := by decide +kernel
theorem dX9_keep_53 : decode cX9_keep 53 = .ok (.ireturn, 1) := by decide +kernel
set_option maxRecDepth 20000 in
theorem ggX9_goBack_X9_within : GoodIn wsX9_goBack wsX9_within := goodIn_r _ [13] (by decide +kernel) (by decide +kernel)
set_option maxRecDepth 20000 in
theorem gX9_goBack_X9_within : GoodIn wsX9_goBack (va_wsS RX9 75 yX9_within wsX9_within) := goodIn_app (goodIn_of _ (by decide +kernel)) ggX9_goBack_X9_within
set_option maxRecDepth 20000 in
theorem ggX9_goBack_X5_copyFrom : GoodIn wsX9_goBack wsX5_copyFrom := goodIn_r _ [18, 19, 20, 21, 22, 23, 24, 25, 26, 27, 43, 44, 45, 46, 47] (by decide +kernel) (by decide +kernel)
set_option maxRecDepth 20000 in
theorem gX9_goBack_X5_copyFrom : GoodIn wsX9_goBack (wsV RX9 212 RX5 yX5_copyFrom wsX5_copyFrom) := goodIn_app (goodIn_of _ (by decide +kernel)) ggX9_goBack_X5_copyFrom
theorem dX9_goBack_0 : decode cX9_goBack 0 = .ok (.iload_n 1, 1) := by decide +kernel
theorem dX9_goBack_1 : decode cX9_goBack 1 = .ok (.iconst 0, 1) := by decide +kernel
theorem dX9_goBack_2 : decode cX9_goBack 2 = .ok (.iconst 1, 1) := by decide +kernel
theorem dX9_goBack_3 : decode cX9_goBack 3 = .ok (.invokestatic 75, 3) := by decide +kernel
theorem dX9_goBack_6 : decode cX9_goBack 6 = .ok (.ifCond .ne 6, 3) := by decide +kernel
theorem dX9_goBack_9 : decode cX9_goBack 9 = .ok (.ldc 123, 2) := by decide +kernel
theorem dX9_goBack_11 : decode cX9_goBack 11 = .ok (.ireturn, 1) := by decide +kernel
theorem dX9_goBack_12 : decode cX9_goBack 12 = .ok (.aload_n 0, 1) := by decide +kernel
theorem dX9_goBack_13 : decode cX9_goBack 13 = .ok (.getfield 25, 3) := by decide +kernel
theorem dX9_goBack_16 : decode cX9_goBack 16 = .ok (.iload_n 1, 1) := by decide +kernel
theorem dX9_goBack_17 : decode cX9_goBack 17 = .ok (.aaload, 1) := by decide +kernel
theorem dX9_goBack_18 : decode cX9_goBack 18 = .ok (.getfield 96, 3) := by decide +kernel
theorem dX9_goBack_21 : decode cX9_goBack 21 = .ok (.ifCond .ne 6, 3) := by decide +kernel
theorem dX9_goBack_24 : decode cX9_goBack 24 = .ok (.ldc 134, 2) := by decide +kernel
theorem dX9_goBack_26 : decode cX9_goBack 26 = .ok (.ireturn, 1) := by decide +kernel
theorem dX9_goBack_27 : decode cX9_goBack 27 = .ok (.aload_n 0, 1) := by decide +kernel
theorem dX9_goBack_28 : decode cX9_goBack 28 = .ok (.getfield 63, 3) := by decide +kernel
theorem dX9_goBack_31 : decode cX9_goBack 31 = .ok (.aload_n 0, 1) := by decide +kernel
theorem dX9_goBack_32 : decode cX9_goBack 32 = .ok (.getfield 25, 3) := by decide +kernel
theorem dX9_goBack_35 : decode cX9_goBack 35 = .ok (.iload_n 1, 1) := by decide +kernel
theorem dX9_goBack_36 : decode cX9_goBack 36 = .ok (.aaload, 1) := by decide +kernel
theorem dX9_goBack_37 : decode cX9_goBack 37 = .ok (.getfield 211, 3) := by decide +kernel
theorem dX9_goBack_40 : decode cX9_goBack 40 = .ok (.invokevirtual 212, 3) := by decide +kernel
theorem dX9_goBack_43 : decode cX9_goBack 43 = .ok (.aload_n 0, 1) := by decide +kernel
theorem dX9_goBack_44 : decode cX9_goBack 44 = .ok (.getfield 19, 3) := by decide +kernel
theorem dX9_goBack_47 : decode cX9_goBack 47 = .ok (.iconst 0, 1) := by decide +kernel
theorem dX9_goBack_48 : decode cX9_goBack 48 = .ok (.putfield 93, 3) := by decide +kernel
theorem dX9_goBack_51 : decode cX9_goBack 51 = .ok (.aload_n 0, 1) := by decide +kernel
theorem dX9_goBack_52 : decode cX9_goBack 52 = .ok (.getfield 63, 3) := by decide +kernel
theorem dX9_goBack_55 : decode cX9_goBack 55 = .ok (.getfield 100, 3) := by decide +kernel
theorem dX9_goBack_58 : decode cX9_goBack 58 = .ok (.ireturn, 1) := by decide +kernel
theorem dX9_within_0 : decode cX9_within 0 = .ok (.iload_n 0, 1) := by decide +kernel
theorem dX9_within_1 : decode cX9_within 1 = .ok (.iload_n 1, 1) := by decide +kernel
theorem dX9_within_2 : decode cX9_within 2 = .ok (.if_icmp .lt 12, 3) := by decide +kernel
theorem dX9_within_5 : decode cX9_within 5 = .ok (.iload_n 0, 1) := by decide +kernel
theorem dX9_within_6 : decode cX9_within 6 = .ok (.iload_n 2, 1) := by decide +kernel
theorem dX9_within_7 : decode cX9_within 7 = .ok (.if_icmp .gt 7, 3) := by decide +kernel
theorem dX9_within_10 : decode cX9_within 10 = .ok (.iconst 1, 1) := by decide +kernel
theorem dX9_within_11 : decode cX9_within 11 = .ok (.goto 4, 3) := by decide +kernel
theorem dX9_within_14 : decode cX9_within 14 = .ok (.iconst 0, 1) := by decide +kernel
theorem dX9_within_15 : decode cX9_within 15 = .ok (.ireturn, 1) := by decide +kernel
set_option maxRecDepth 20000 in
theorem ggX9_isSystem_X9_within : GoodIn wsX9_isSystem wsX9_within := goodIn_r _ [4] (by decide +kernel) (by decide +kernel)
set_option maxRecDepth 20000 in
theorem gX9_isSystem_X9_within : GoodIn wsX9_isSystem (va_wsS RX9 75 yX9_within wsX9_within) := goodIn_app (goodIn_of _ (by decide +kernel)) ggX9_isSystem_X9_within
theorem dX9_isSystem_0 : decode cX9_isSystem 0 = .ok (.iload_n 0, 1) := by decide +kernel
theorem dX9_isSystem_1 : decode cX9_isSystem 1 = .ok (.iconst 0, 1) := by decide +kernel
theorem dX9_isSystem_2 : decode cX9_isSystem 2 = .ok (.iconst 2, 1) := by decide +kernel
theorem dX9_isSystem_3 : decode cX9_isSystem 3 = .ok (.invokestatic 75, 3) := by decide +kernel
theorem dX9_isSystem_6 : decode cX9_isSystem 6 = .ok (.ireturn, 1) := by decide +kernel
set_option maxRecDepth 20000 in
theorem ggX9_isNumber_X9_within : GoodIn wsX9_isNumber wsX9_within := goodIn_r _ [4] (by decide +kernel) (by decide +kernel)
set_option maxRecDepth 20000 in
theorem gX9_isNumber_X9_within : GoodIn wsX9_isNumber (va_wsS RX9 75 yX9_within wsX9_within) := goodIn_app (goodIn_of _ (by decide +kernel)) ggX9_isNumber_X9_within
theorem dX9_isNumber_0 : decode cX9_isNumber 0 = .ok (.iload_n 0, 1) := by decide +kernel
theorem dX9_isNumber_1 : decode cX9_isNumber 1 = .ok (.bipush (-9), 2) := by decide +kernel
theorem dX9_isNumber_3 : decode cX9_isNumber 3 = .ok (.bipush 9, 2) := by decide +kernel
theorem dX9_isNumber_5 : decode cX9_isNumber 5 = .ok (.invokestatic 75, 3) := by decide +kernel
theorem dX9_isNumber_8 : decode cX9_isNumber 8 = .ok (.ireturn, 1) := by decide +kernel
theorem dX10_init_0 : decode cX10_init 0 = .ok (.aload_n 0, 1) := by decide +kernel
theorem dX10_init_1 : decode cX10_init 1 = .ok (.invokespecial 1, 3) := by decide +kernel
theorem dX10_init_4 : decode cX10_init 4 = .ok (.aload_n 0, 1) := by decide +kernel
theorem dX10_init_5 : decode cX10_init 5 = .ok (.bipush 40, 2) := by decide +kernel
theorem dX10_init_7 : decode cX10_init 7 = .ok (.newarray .int, 2) := by decide +kernel
theorem dX10_init_9 : decode cX10_init 9 = .ok (.putfield 7, 3) := by decide +kernel
theorem dX10_init_12 : decode cX10_init 12 = .ok (.aload_n 0, 1) := by decide +kernel
theorem dX10_init_13 : decode cX10_init 13 = .ok (.bipush 40, 2) := by decide +kernel
theorem dX10_init_15 : decode cX10_init 15 = .ok (.newarray .int, 2) := by decide +kernel
theorem dX10_init_17 : decode cX10_init 17 = .ok (.putfield 13, 3) := by decide +kernel
theorem dX10_init_20 : decode cX10_init 20 = .ok (.aload_n 0, 1) := by decide +kernel
theorem dX10_init_21 : decode cX10_init 21 = .ok (.bipush 40, 2) := by decide +kernel
theorem dX10_init_23 : decode cX10_init 23 = .ok (.newarray .int, 2) := by decide +kernel
theorem dX10_init_25 : decode cX10_init 25 = .ok (.putfield 16, 3) := by decide +kernel
theorem dX10_init_28 : decode cX10_init 28 = .ok (.aload_n 0, 1) := by decide +kernel
theorem dX10_init_29 : decode cX10_init 29 = .ok (.bipush 40, 2) := by decide +kernel
theorem dX10_init_31 : decode cX10_init 31 = .ok (.newarray .int, 2) := by decide +kernel
theorem dX10_init_33 : decode cX10_init 33 = .ok (.putfield 19, 3) := by decide +kernel
theorem dX10_init_36 : decode cX10_init 36 = .ok (.aload_n 0, 1) := by decide +kernel
theorem dX10_init_37 : decode cX10_init 37 = .ok (.bipush 40, 2) := by decide +kernel
theorem dX10_init_39 : decode cX10_init 39 = .ok (.newarray .int, 2) := by decide +kernel
theorem dX10_init_41 : decode cX10_init 41 = .ok (.putfield 22, 3) := by decide +kernel
theorem dX10_init_44 : decode cX10_init 44 = .ok (.aload_n 0, 1) := by decide +kernel
theorem dX10_init_45 : decode cX10_init 45 = .ok (.bipush 40, 2) := by decide +kernel
theorem dX10_init_47 : decode cX10_init 47 = .ok (.newarray .int, 2) := by decide +kernel
theorem dX10_init_49 : decode cX10_init 49 = .ok (.putfield 25, 3) := by decide +kernel
theorem dX10_init_52 : decode cX10_init 52 = .ok (.aload_n 0, 1) := by decide +kernel
theorem dX10_init_53 : decode cX10_init 53 = .ok (.sipush 240, 3) := by decide +kernel
theorem dX10_init_56 : decode cX10_init 56 = .ok (.newarray .int, 2) := by decide +kernel
theorem dX10_init_58 : decode cX10_init 58 = .ok (.putfield 28, 3) := by decide +kernel
theorem dX10_init_61 : decode cX10_init 61 = .ok (.aload_n 0, 1) := by decide +kernel
theorem dX10_init_62 : decode cX10_init 62 = .ok (.iconst (-1), 1) := by decide +kernel
theorem dX10_init_63 : decode cX10_init 63 = .ok (.putfield 31, 3) := by decide +kernel
theorem dX10_init_66 : decode cX10_init 66 = .ok (.aload_n 0, 1) := by decide +kernel
theorem dX10_init_67 : decode cX10_init 67 = .ok (.bipush 40, 2) := by decide +kernel
theorem dX10_init_69 : decode cX10_init 69 = .ok (.newarray .int, 2) := by decide +kernel
theorem dX10_init_71 : decode cX10_init 71 = .ok (.putfield 35, 3) := by decide +kernel
theorem dX10_init_74 : decode cX10_init 74 = .ok (.aload_n 0, 1) := by decide +kernel
theorem dX10_init_75 : decode cX10_init 75 = .ok (.bipush 40, 2) := by decide +kernel
theorem dX10_init_77 : decode cX10_init 77 = .ok (.newarray .int, 2) := by decide +kernel
theorem dX10_init_79 : decode cX10_init 79 = .ok (.putfield 38, 3) := by decide +kernel
theorem dX10_init_82 : decode cX10_init 82 = .ok (.aload_n 0, 1) := by decide +kernel
theorem dX10_init_83 : decode cX10_init 83 = .ok (.bipush 40, 2) := by decide +kernel
theorem dX10_init_85 : decode cX10_init 85 = .ok (.newarray .int, 2) := by decide +kernel
theorem dX10_init_87 : decode cX10_init 87 = .ok (.putfield 41, 3) := by decide +kernel
theorem dX10_init_90 : decode cX10_init 90 = .ok (.aload_n 0, 1) := by decide +kernel
theorem dX10_init_91 : decode cX10_init 91 = .ok (.bipush 40, 2) := by decide +kernel
theorem dX10_init_93 : decode cX10_init 93 = .ok (.newarray .int, 2) := by decide +kernel
theorem dX10_init_95 : decode cX10_init 95 = .ok (.putfield 44, 3) := by decide +kernel
theorem dX10_init_98 : decode cX10_init 98 = .ok (.aload_n 0, 1) := by decide +kernel
theorem dX10_init_99 : decode cX10_init 99 = .ok (.bipush 40, 2) := by decide +kernel
theorem dX10_init_101 : decode cX10_init 101 = .ok (.newarray .int, 2) := by decide +kernel
theorem dX10_init_103 : decode cX10_init 103 = .ok (.putfield 47, 3) := by decide +kernel
theorem dX10_init_106 : decode cX10_init 106 = .ok (.aload_n 0, 1) := by decide +kernel
theorem dX10_init_107 : decode cX10_init 107 = .ok (.bipush 40, 2) := by decide +kernel
theorem dX10_init_109 : decode cX10_init 109 = .ok (.newarray .int, 2) := by decide +kernel
theorem dX10_init_111 : decode cX10_init 111 = .ok (.putfield 50, 3) := by decide +kernel
theorem dX10_init_114 : decode cX10_init 114 = .ok (.aload_n 0, 1) := by decide +kernel
theorem dX10_init_115 : decode cX10_init 115 = .ok (.bipush 40, 2) := by decide +kernel
theorem dX10_init_117 : decode cX10_init 117 = .ok (.newarray .int, 2) := by decide +kernel
theorem dX10_init_119 : decode cX10_init 119 = .ok (.putfield 53, 3) := by decide +kernel
theorem dX10_init_122 : decode cX10_init 122 = .ok (.aload_n 0, 1) := by decide +kernel
theorem dX10_init_123 : decode cX10_init 123 = .ok (.bipush 40, 2) := by decide +kernel
theorem dX10_init_125 : decode cX10_init 125 = .ok (.newarray .int, 2) := by decide +kernel
theorem dX10_init_127 : decode cX10_init 127 = .ok (.putfield 56, 3) := by decide +kernel
theorem dX10_init_130 : decode cX10_init 130 = .ok (.aload_n 0, 1) := by decide +kernel
theorem dX10_init_131 : decode cX10_init 131 = .ok (.bipush 8, 2) := by decide +kernel
theorem dX10_init_133 : decode cX10_init 133 = .ok (.newarray .int, 2) := by decide +kernel
theorem dX10_init_135 : decode cX10_init 135 = .ok (.putfield 59, 3) := by decide +kernel
theorem dX10_init_138 : decode cX10_init 138 = .ok (.aload_n 0, 1) := by decide +kernel
theorem dX10_init_139 : decode cX10_init 139 = .ok (.sipush 10240, 3) := by decide +kernel
theorem dX10_init_142 : decode cX10_init 142 = .ok (.newarray .boolean, 2) := by decide +kernel
theorem dX10_init_144 : decode cX10_init 144 = .ok (.putfield 62, 3) := by decide +kernel
theorem dX10_init_147 : decode cX10_init 147 = .ok (.aload_n 0, 1) := by decide +kernel
theorem dX10_init_148 : decode cX10_init 148 = .ok (.sipush 256, 3) := by decide +kernel
theorem dX10_init_151 : decode cX10_init 151 = .ok (.newarray .boolean, 2) := by decide +kernel
theorem dX10_init_153 : decode cX10_init 153 = .ok (.putfield 66, 3) := by decide +kernel
theorem dX10_init_156 : decode cX10_init 156 = .ok (.aload_n 0, 1) := by decide +kernel
theorem dX10_init_157 : decode cX10_init 157 = .ok (.bipush 40, 2) := by decide +kernel
theorem dX10_init_159 : decode cX10_init 159 = .ok (.newarray .boolean, 2) := by decide +kernel
theorem dX10_init_161 : decode cX10_init 161 = .ok (.putfield 69, 3) := by decide +kernel
theorem dX10_init_164 : decode cX10_init 164 = .ok (.aload_n 0, 1) := by decide +kernel
theorem dX10_init_165 : decode cX10_init 165 = .ok (.bipush 8, 2) := by decide +kernel
theorem dX10_init_167 : decode cX10_init 167 = .ok (.newarray .int, 2) := by decide +kernel
theorem dX10_init_169 : decode cX10_init 169 = .ok (.putfield 72, 3) := by decide +kernel
theorem dX10_init_172 : decode cX10_init 172 = .ok (.aload_n 0, 1) := by decide +kernel
theorem dX10_init_173 : decode cX10_init 173 = .ok (.bipush 32, 2) := by decide +kernel
theorem dX10_init_175 : decode cX10_init 175 = .ok (.newarray .int, 2) := by decide +kernel
theorem dX10_init_177 : decode cX10_init 177 = .ok (.putfield 75, 3) := by decide +kernel
theorem dX10_init_180 : decode cX10_init 180 = .ok (.aload_n 0, 1) := by decide +kernel
theorem dX10_init_181 : decode cX10_init 181 = .ok (.bipush 8, 2) := by decide +kernel
theorem dX10_init_183 : decode cX10_init 183 = .ok (.newarray .int, 2) := by decide +kernel
theorem dX10_init_185 : decode cX10_init 185 = .ok (.putfield 78, 3) := by decide +kernel
theorem dX10_init_188 : decode cX10_init 188 = .ok (.aload_n 0, 1) := by decide +kernel
theorem dX10_init_189 : decode cX10_init 189 = .ok (.bipush 8, 2) := by decide +kernel
theorem dX10_init_191 : decode cX10_init 191 = .ok (.newarray .int, 2) := by decide +kernel
theorem dX10_init_193 : decode cX10_init 193 = .ok (.putfield 81, 3) := by decide +kernel
theorem dX10_init_196 : decode cX10_init 196 = .ok (.aload_n 0, 1) := by decide +kernel
theorem dX10_init_197 : decode cX10_init 197 = .ok (.bipush 8, 2) := by decide +kernel
theorem dX10_init_199 : decode cX10_init 199 = .ok (.newarray .int, 2) := by decide +kernel
theorem dX10_init_201 : decode cX10_init 201 = .ok (.putfield 84, 3) := by decide +kernel
theorem dX10_init_204 : decode cX10_init 204 = .ok (.aload_n 0, 1) := by decide +kernel
theorem dX10_init_205 : decode cX10_init 205 = .ok (.iconst 2, 1) := by decide +kernel
theorem dX10_init_206 : decode cX10_init 206 = .ok (.newarray .int, 2) := by decide +kernel
theorem dX10_init_208 : decode cX10_init 208 = .ok (.dup, 1) := by decide +kernel
theorem dX10_init_209 : decode cX10_init 209 = .ok (.iconst 0, 1) := by decide +kernel
theorem dX10_init_210 : decode cX10_init 210 = .ok (.iconst (-1), 1) := by decide +kernel
theorem dX10_init_211 : decode cX10_init 211 = .ok (.iastore, 1) := by decide +kernel
theorem dX10_init_212 : decode cX10_init 212 = .ok (.dup, 1) := by decide +kernel
theorem dX10_init_213 : decode cX10_init 213 = .ok (.iconst 1, 1) := by decide +kernel
theorem dX10_init_214 : decode cX10_init 214 = .ok (.iconst (-1), 1) := by decide +kernel
theorem dX10_init_215 : decode cX10_init 215 = .ok (.iastore, 1) := by decide +kernel
theorem dX10_init_216 : decode cX10_init 216 = .ok (.putfield 87, 3) := by decide +kernel
theorem dX10_init_219 : decode cX10_init 219 = .ok (.aload_n 0, 1) := by decide +kernel
theorem dX10_init_220 : decode cX10_init 220 = .ok (.sipush 480, 3) := by decide +kernel
theorem dX10_init_223 : decode cX10_init 223 = .ok (.newarray .int, 2) := by decide +kernel
theorem dX10_init_225 : decode cX10_init 225 = .ok (.putfield 90, 3) := by decide +kernel
theorem dX10_init_228 : decode cX10_init 228 = .ok (.aload_n 0, 1) := by decide +kernel
theorem dX10_init_229 : decode cX10_init 229 = .ok (.iconst 0, 1) := by decide +kernel
theorem dX10_init_230 : decode cX10_init 230 = .ok (.putfield 93, 3) := by decide +kernel
theorem dX10_init_233 : decode cX10_init 233 = .ok (.return_, 1) := by decide +kernel
theorem dX10_in_0 : decode cX10_in 0 = .ok (.lload_n 0, 1) := by decide +kernel
theorem dX10_in_1 : decode cX10_in 1 = .ok (.lload_n 2, 1) := by decide +kernel
theorem dX10_in_2 : decode cX10_in 2 = .ok (.lcmp, 1) := by decide +kernel
theorem dX10_in_3 : decode cX10_in 3 = .ok (.ifCond .lt 14, 3) := by decide +kernel
theorem dX10_in_6 : decode cX10_in 6 = .ok (.lload_n 0, 1) := by decide +kernel
theorem dX10_in_7 : decode cX10_in 7 = .ok (.lload 4, 2) := by decide +kernel
theorem dX10_in_9 : decode cX10_in 9 = .ok (.lcmp, 1) := by decide +kernel
theorem dX10_in_10 : decode cX10_in 10 = .ok (.ifCond .gt 7, 3) := by decide +kernel
theorem dX10_in_13 : decode cX10_in 13 = .ok (.iconst 1, 1) := by decide +kernel
theorem dX10_in_14 : decode cX10_in 14 = .ok (.goto 4, 3) := by decide +kernel
theorem dX10_in_17 : decode cX10_in 17 = .ok (.iconst 0, 1) := by decide +kernel
theorem dX10_in_18 : decode cX10_in 18 = .ok (.ireturn, 1) := by decide +kernel
theorem dX10_has_0 : decode cX10_has 0 = .ok (.iload_n 0, 1) := by decide +kernel
theorem dX10_has_1 : decode cX10_has 1 = .ok (.iload_n 1, 1) := by decide +kernel
theorem dX10_has_2 : decode cX10_has 2 = .ok (.ishr, 1) := by decide +kernel
theorem dX10_has_3 : decode cX10_has 3 = .ok (.iconst 1, 1) := by decide +kernel
theorem dX10_has_4 : decode cX10_has 4 = .ok (.iand, 1) := by decide +kernel
theorem dX10_has_5 : decode cX10_has 5 = .ok (.iconst 1, 1) := by decide +kernel
theorem dX10_has_6 : decode cX10_has 6 = .ok (.if_icmp .ne 7, 3) := by decide +kernel
theorem dX10_has_9 : decode cX10_has 9 = .ok (.iconst 1, 1) := by decide +kernel
theorem dX10_has_10 : decode cX10_has 10 = .ok (.goto 4, 3) := by decide +kernel
theorem dX10_has_13 : decode cX10_has 13 = .ok (.iconst 0, 1) := by decide +kernel
theorem dX10_has_14 : decode cX10_has 14 = .ok (.ireturn, 1) := by decide +kernel
theorem dX10_bits_0 : decode cX10_bits 0 = .ok (.iconst 0, 1) := by decide +kernel
theorem dX10_bits_1 : decode cX10_bits 1 = .ok (.istore_n 1, 1) := by decide +kernel
theorem dX10_bits_2 : decode cX10_bits 2 = .ok (.iconst 0, 1) := by decide +kernel
theorem dX10_bits_3 : decode cX10_bits 3 = .ok (.istore_n 2, 1) := by decide +kernel
theorem dX10_bits_4 : decode cX10_bits 4 = .ok (.iload_n 2, 1) := by decide +kernel
theorem dX10_bits_5 : decode cX10_bits 5 = .ok (.bipush 10, 2) := by decide +kernel
theorem dX10_bits_7 : decode cX10_bits 7 = .ok (.if_icmp .ge 17, 3) := by decide +kernel
theorem dX10_bits_10 : decode cX10_bits 10 = .ok (.iload_n 1, 1) := by decide +kernel
theorem dX10_bits_11 : decode cX10_bits 11 = .ok (.iload_n 0, 1) := by decide +kernel
theorem dX10_bits_12 : decode cX10_bits 12 = .ok (.iload_n 2, 1) := by decide +kernel
theorem dX10_bits_13 : decode cX10_bits 13 = .ok (.ishr, 1) := by decide +kernel
theorem dX10_bits_14 : decode cX10_bits 14 = .ok (.iconst 1, 1) := by decide +kernel
theorem dX10_bits_15 : decode cX10_bits 15 = .ok (.iand, 1) := by decide +kernel
theorem dX10_bits_16 : decode cX10_bits 16 = .ok (.iadd, 1) := by decide +kernel
theorem dX10_bits_17 : decode cX10_bits 17 = .ok (.istore_n 1, 1) := by decide +kernel
theorem dX10_bits_18 : decode cX10_bits 18 = .ok (.iinc 2 1, 3) := by decide +kernel
theorem dX10_bits_21 : decode cX10_bits 21 = .ok (.goto (-17), 3) := by decide +kernel
theorem dX10_bits_24 : decode cX10_bits 24 = .ok (.iload_n 1, 1) := by decide +kernel
theorem dX10_bits_25 : decode cX10_bits 25 = .ok (.ireturn, 1) := by decide +kernel
set_option maxRecDepth 20000 in
theorem ggX10_isStep_X10_in : GoodIn wsX10_isStep wsX10_in := goodIn_r _ [5] (by decide +kernel) (by decide +kernel)
set_option maxRecDepth 20000 in
theorem gX10_isStep_X10_in : GoodIn wsX10_isStep (va_wsS RX10 96 yX10_in wsX10_in) := goodIn_app (goodIn_of _ (by decide +kernel)) ggX10_isStep_X10_in
theorem dX10_isStep_0 : decode cX10_isStep 0 = .ok (.iload_n 1, 1) := by decide +kernel
theorem dX10_isStep_1 : decode cX10_isStep 1 = .ok (.i2l, 1) := by decide +kernel
theorem dX10_isStep_2 : decode cX10_isStep 2 = .ok (.lconst 0, 1) := by decide +kernel
theorem dX10_isStep_3 : decode cX10_isStep 3 = .ok (.aload_n 0, 1) := by decide +kernel
theorem dX10_isStep_4 : decode cX10_isStep 4 = .ok (.getfield 93, 3) := by decide +kernel
theorem dX10_isStep_7 : decode cX10_isStep 7 = .ok (.iconst 1, 1) := by decide +kernel
theorem dX10_isStep_8 : decode cX10_isStep 8 = .ok (.isub, 1) := by decide +kernel
theorem dX10_isStep_9 : decode cX10_isStep 9 = .ok (.i2l, 1) := by decide +kernel
theorem dX10_isStep_10 : decode cX10_isStep 10 = .ok (.invokestatic 96, 3) := by decide +kernel
theorem dX10_isStep_13 : decode cX10_isStep 13 = .ok (.ireturn, 1) := by decide +kernel
set_option maxRecDepth 20000 in
theorem ggX10_isLetter_X10_in : GoodIn wsX10_isLetter wsX10_in := goodIn_r _ [5] (by decide +kernel) (by decide +kernel)
set_option maxRecDepth 20000 in
theorem gX10_isLetter_X10_in : GoodIn wsX10_isLetter (va_wsS RX10 96 yX10_in wsX10_in) := goodIn_app (goodIn_of _ (by decide +kernel)) ggX10_isLetter_X10_in
theorem dX10_isLetter_0 : decode cX10_isLetter 0 = .ok (.iload_n 0, 1) := by decide +kernel
theorem dX10_isLetter_1 : decode cX10_isLetter 1 = .ok (.i2l, 1) := by decide +kernel
theorem dX10_isLetter_2 : decode cX10_isLetter 2 = .ok (.lconst 0, 1) := by decide +kernel
theorem dX10_isLetter_3 : decode cX10_isLetter 3 = .ok (.ldc2_w 100, 3) := by decide +kernel
theorem dX10_isLetter_6 : decode cX10_isLetter 6 = .ok (.invokestatic 96, 3) := by decide +kernel
theorem dX10_isLetter_9 : decode cX10_isLetter 9 = .ok (.ireturn, 1) := by decide +kernel
set_option maxRecDepth 20000 in
theorem ggX10_feed_X10_in : GoodIn wsX10_feed wsX10_in := goodIn_r _ [9] (by decide +kernel) (by decide +kernel)
set_option maxRecDepth 20000 in
theorem gX10_feed_X10_in : GoodIn wsX10_feed (va_wsS RX10 96 yX10_in wsX10_in) := goodIn_app (goodIn_of _ (by decide +kernel)) ggX10_feed_X10_in
theorem dX10_feed_0 : decode cX10_feed 0 = .ok (.iload_n 1, 1) := by decide +kernel
theorem dX10_feed_1 : decode cX10_feed 1 = .ok (.i2l, 1) := by decide +kernel
theorem dX10_feed_2 : decode cX10_feed 2 = .ok (.lconst 0, 1) := by decide +kernel
theorem dX10_feed_3 : decode cX10_feed 3 = .ok (.ldc2_w 102, 3) := by decide +kernel
theorem dX10_feed_6 : decode cX10_feed 6 = .ok (.invokestatic 96, 3) := by decide +kernel
theorem dX10_feed_9 : decode cX10_feed 9 = .ok (.ifCond .ne 6, 3) := by decide +kernel
theorem dX10_feed_12 : decode cX10_feed 12 = .ok (.ldc 104, 2) := by decide +kernel
theorem dX10_feed_14 : decode cX10_feed 14 = .ok (.ireturn, 1) := by decide +kernel
theorem dX10_feed_15 : decode cX10_feed 15 = .ok (.aload_n 0, 1) := by decide +kernel
theorem dX10_feed_16 : decode cX10_feed 16 = .ok (.getfield 105, 3) := by decide +kernel
theorem dX10_feed_19 : decode cX10_feed 19 = .ok (.sipush 240, 3) := by decide +kernel
theorem dX10_feed_22 : decode cX10_feed 22 = .ok (.if_icmp .ne 6, 3) := by decide +kernel
theorem dX10_feed_25 : decode cX10_feed 25 = .ok (.ldc 108, 2) := by decide +kernel
theorem dX10_feed_27 : decode cX10_feed 27 = .ok (.ireturn, 1) := by decide +kernel
theorem dX10_feed_28 : decode cX10_feed 28 = .ok (.aload_n 0, 1) := by decide +kernel
theorem dX10_feed_29 : decode cX10_feed 29 = .ok (.getfield 28, 3) := by decide +kernel
theorem dX10_feed_32 : decode cX10_feed 32 = .ok (.aload_n 0, 1) := by decide +kernel
theorem dX10_feed_33 : decode cX10_feed 33 = .ok (.getfield 105, 3) := by decide +kernel
theorem dX10_feed_36 : decode cX10_feed 36 = .ok (.iload_n 1, 1) := by decide +kernel
theorem dX10_feed_37 : decode cX10_feed 37 = .ok (.iastore, 1) := by decide +kernel
theorem dX10_feed_38 : decode cX10_feed 38 = .ok (.aload_n 0, 1) := by decide +kernel
theorem dX10_feed_39 : decode cX10_feed 39 = .ok (.dup, 1) := by decide +kernel
theorem dX10_feed_40 : decode cX10_feed 40 = .ok (.getfield 105, 3) := by decide +kernel
theorem dX10_feed_43 : decode cX10_feed 43 = .ok (.iconst 1, 1) := by decide +kernel
theorem dX10_feed_44 : decode cX10_feed 44 = .ok (.iadd, 1) := by decide +kernel
theorem dX10_feed_45 : decode cX10_feed 45 = .ok (.putfield 105, 3) := by decide +kernel
theorem dX10_feed_48 : decode cX10_feed 48 = .ok (.aload_n 0, 1) := by decide +kernel
theorem dX10_feed_49 : decode cX10_feed 49 = .ok (.getfield 105, 3) := by decide +kernel
theorem dX10_feed_52 : decode cX10_feed 52 = .ok (.ireturn, 1) := by decide +kernel
theorem dX10_here_0 : decode cX10_here 0 = .ok (.aload_n 0, 1) := by decide +kernel
theorem dX10_here_1 : decode cX10_here 1 = .ok (.getfield 109, 3) := by decide +kernel
theorem dX10_here_4 : decode cX10_here 4 = .ok (.aload_n 0, 1) := by decide +kernel
theorem dX10_here_5 : decode cX10_here 5 = .ok (.getfield 105, 3) := by decide +kernel
theorem dX10_here_8 : decode cX10_here 8 = .ok (.if_icmp .ge 30, 3) := by decide +kernel
theorem dX10_here_11 : decode cX10_here 11 = .ok (.aload_n 0, 1) := by decide +kernel
theorem dX10_here_12 : decode cX10_here 12 = .ok (.getfield 28, 3) := by decide +kernel
theorem dX10_here_15 : decode cX10_here 15 = .ok (.aload_n 0, 1) := by decide +kernel
theorem dX10_here_16 : decode cX10_here 16 = .ok (.getfield 109, 3) := by decide +kernel
theorem dX10_here_19 : decode cX10_here 19 = .ok (.iaload, 1) := by decide +kernel
theorem dX10_here_20 : decode cX10_here 20 = .ok (.bipush 32, 2) := by decide +kernel
theorem dX10_here_22 : decode cX10_here 22 = .ok (.if_icmp .ne 16, 3) := by decide +kernel
theorem dX10_here_25 : decode cX10_here 25 = .ok (.aload_n 0, 1) := by decide +kernel
theorem dX10_here_26 : decode cX10_here 26 = .ok (.dup, 1) := by decide +kernel
theorem dX10_here_27 : decode cX10_here 27 = .ok (.getfield 109, 3) := by decide +kernel
theorem dX10_here_30 : decode cX10_here 30 = .ok (.iconst 1, 1) := by decide +kernel
theorem dX10_here_31 : decode cX10_here 31 = .ok (.iadd, 1) := by decide +kernel
theorem dX10_here_32 : decode cX10_here 32 = .ok (.putfield 109, 3) := by decide +kernel
theorem dX10_here_35 : decode cX10_here 35 = .ok (.goto (-35), 3) := by decide +kernel
theorem dX10_here_38 : decode cX10_here 38 = .ok (.aload_n 0, 1) := by decide +kernel
theorem dX10_here_39 : decode cX10_here 39 = .ok (.getfield 109, 3) := by decide +kernel
theorem dX10_here_42 : decode cX10_here 42 = .ok (.aload_n 0, 1) := by decide +kernel
theorem dX10_here_43 : decode cX10_here 43 = .ok (.getfield 105, 3) := by decide +kernel
theorem dX10_here_46 : decode cX10_here 46 = .ok (.if_icmp .ge 15, 3) := by decide +kernel
theorem dX10_here_49 : decode cX10_here 49 = .ok (.aload_n 0, 1) := by decide +kernel
theorem dX10_here_50 : decode cX10_here 50 = .ok (.getfield 28, 3) := by decide +kernel
theorem dX10_here_53 : decode cX10_here 53 = .ok (.aload_n 0, 1) := by decide +kernel
theorem dX10_here_54 : decode cX10_here 54 = .ok (.getfield 109, 3) := by decide +kernel
theorem dX10_here_57 : decode cX10_here 57 = .ok (.iaload, 1) := by decide +kernel
theorem dX10_here_58 : decode cX10_here 58 = .ok (.goto 4, 3) := by decide +kernel
theorem dX10_here_61 : decode cX10_here 61 = .ok (.iconst (-1), 1) := by decide +kernel
theorem dX10_here_62 : decode cX10_here 62 = .ok (.ireturn, 1) := by decide +kernel
theorem dX10_fails_0 : decode cX10_fails 0 = .ok (.aload_n 0, 1) := by decide +kernel
theorem dX10_fails_1 : decode cX10_fails 1 = .ok (.iload_n 2, 1) := by decide +kernel
theorem dX10_fails_2 : decode cX10_fails 2 = .ok (.putfield 31, 3) := by decide +kernel
theorem dX10_fails_5 : decode cX10_fails 5 = .ok (.iload_n 1, 1) := by decide +kernel
theorem dX10_fails_6 : decode cX10_fails 6 = .ok (.ireturn, 1) := by decide +kernel
set_option maxRecDepth 20000 in
theorem ggX10_takeNumber_X10_here : GoodIn wsX10_takeNumber wsX10_here := goodIn_r _ [12, 3, 6, 7, 21, 22, 23, 24, 25, 26, 27, 28, 29, 30, 31, 32, 33, 34, 35, 36, 37, 38, 39, 40, 41, 42, 43, 44, 45, 46, 47, 48, 49, 50, 51, 52, 53, 54, 55, 56, 57, 58] (by decide +kernel) (by decide +kernel)
set_option maxRecDepth 20000 in
theorem gX10_takeNumber_X10_here : GoodIn wsX10_takeNumber (wsV RX10 112 RX10 yX10_here wsX10_here) := goodIn_app (goodIn_of _ (by decide +kernel)) ggX10_takeNumber_X10_here
set_option maxRecDepth 20000 in
theorem ggX10_takeNumber_X10_in : GoodIn wsX10_takeNumber wsX10_in := goodIn_r _ [15] (by decide +kernel) (by decide +kernel)
set_option maxRecDepth 20000 in
theorem gX10_takeNumber_X10_in : GoodIn wsX10_takeNumber (va_wsS RX10 96 yX10_in wsX10_in) := goodIn_app (goodIn_of _ (by decide +kernel)) ggX10_takeNumber_X10_in
set_option maxRecDepth 20000 in
theorem ggX10_takeNumber_X10_fails : GoodIn wsX10_takeNumber wsX10_fails := goodIn_r _ [19, 20, 21, 22, 23, 24, 25, 26, 27, 28, 29, 30, 31, 32, 33, 34, 35, 36, 37, 38, 39, 40, 41, 42, 43, 44, 45, 46, 47, 48, 49, 50, 51, 52, 53, 54, 55, 56, 57, 58] (by decide +kernel) (by decide +kernel)
set_option maxRecDepth 20000 in
theorem gX10_takeNumber_X10_fails : GoodIn wsX10_takeNumber (wsV RX10 120 RX10 yX10_fails wsX10_fails) := goodIn_app (goodIn_of _ (by decide +kernel)) ggX10_takeNumber_X10_fails
theorem dX10_takeNumber_0 : decode cX10_takeNumber 0 = .ok (.aload_n 0, 1) := by decide +kernel
theorem dX10_takeNumber_1 : decode cX10_takeNumber 1 = .ok (.invokevirtual 112, 3) := by decide +kernel
theorem dX10_takeNumber_4 : decode cX10_takeNumber 4 = .ok (.istore_n 3, 1) := by decide +kernel
theorem dX10_takeNumber_5 : decode cX10_takeNumber 5 = .ok (.iload_n 3, 1) := by decide +kernel
theorem dX10_takeNumber_6 : decode cX10_takeNumber 6 = .ok (.i2l, 1) := by decide +kernel
theorem dX10_takeNumber_7 : decode cX10_takeNumber 7 = .ok (.ldc2_w 116, 3) := by decide +kernel
theorem dX10_takeNumber_10 : decode cX10_takeNumber 10 = .ok (.ldc2_w 118, 3) := by decide +kernel
theorem dX10_takeNumber_13 : decode cX10_takeNumber 13 = .ok (.invokestatic 96, 3) := by decide +kernel
theorem dX10_takeNumber_16 : decode cX10_takeNumber 16 = .ok (.ifCond .ne 13, 3) := by decide +kernel
theorem dX10_takeNumber_19 : decode cX10_takeNumber 19 = .ok (.aload_n 0, 1) := by decide +kernel
theorem dX10_takeNumber_20 : decode cX10_takeNumber 20 = .ok (.iconst 1, 1) := by decide +kernel
theorem dX10_takeNumber_21 : decode cX10_takeNumber 21 = .ok (.aload_n 0, 1) := by decide +kernel
theorem dX10_takeNumber_22 : decode cX10_takeNumber 22 = .ok (.getfield 109, 3) := by decide +kernel
theorem dX10_takeNumber_25 : decode cX10_takeNumber 25 = .ok (.invokevirtual 120, 3) := by decide +kernel
theorem dX10_takeNumber_28 : decode cX10_takeNumber 28 = .ok (.ireturn, 1) := by decide +kernel
theorem dX10_takeNumber_29 : decode cX10_takeNumber 29 = .ok (.aload_n 0, 1) := by decide +kernel
theorem dX10_takeNumber_30 : decode cX10_takeNumber 30 = .ok (.aload_n 0, 1) := by decide +kernel
theorem dX10_takeNumber_31 : decode cX10_takeNumber 31 = .ok (.getfield 109, 3) := by decide +kernel
theorem dX10_takeNumber_34 : decode cX10_takeNumber 34 = .ok (.putfield 124, 3) := by decide +kernel
theorem dX10_takeNumber_37 : decode cX10_takeNumber 37 = .ok (.aload_n 0, 1) := by decide +kernel
theorem dX10_takeNumber_38 : decode cX10_takeNumber 38 = .ok (.iconst 0, 1) := by decide +kernel
theorem dX10_takeNumber_39 : decode cX10_takeNumber 39 = .ok (.putfield 127, 3) := by decide +kernel
theorem dX10_takeNumber_42 : decode cX10_takeNumber 42 = .ok (.aload_n 0, 1) := by decide +kernel
theorem dX10_takeNumber_43 : decode cX10_takeNumber 43 = .ok (.getfield 109, 3) := by decide +kernel
theorem dX10_takeNumber_46 : decode cX10_takeNumber 46 = .ok (.aload_n 0, 1) := by decide +kernel
theorem dX10_takeNumber_47 : decode cX10_takeNumber 47 = .ok (.getfield 105, 3) := by decide +kernel
theorem dX10_takeNumber_50 : decode cX10_takeNumber 50 = .ok (.if_icmp .ge 79, 3) := by decide +kernel
theorem dX10_takeNumber_53 : decode cX10_takeNumber 53 = .ok (.aload_n 0, 1) := by decide +kernel
theorem dX10_takeNumber_54 : decode cX10_takeNumber 54 = .ok (.getfield 28, 3) := by decide +kernel
theorem dX10_takeNumber_57 : decode cX10_takeNumber 57 = .ok (.aload_n 0, 1) := by decide +kernel
theorem dX10_takeNumber_58 : decode cX10_takeNumber 58 = .ok (.getfield 109, 3) := by decide +kernel
theorem dX10_takeNumber_61 : decode cX10_takeNumber 61 = .ok (.iaload, 1) := by decide +kernel
theorem dX10_takeNumber_62 : decode cX10_takeNumber 62 = .ok (.i2l, 1) := by decide +kernel
theorem dX10_takeNumber_63 : decode cX10_takeNumber 63 = .ok (.ldc2_w 116, 3) := by decide +kernel
theorem dX10_takeNumber_66 : decode cX10_takeNumber 66 = .ok (.ldc2_w 118, 3) := by decide +kernel
theorem dX10_takeNumber_69 : decode cX10_takeNumber 69 = .ok (.invokestatic 96, 3) := by decide +kernel
theorem dX10_takeNumber_72 : decode cX10_takeNumber 72 = .ok (.ifCond .eq 57, 3) := by decide +kernel
theorem dX10_takeNumber_75 : decode cX10_takeNumber 75 = .ok (.aload_n 0, 1) := by decide +kernel
theorem dX10_takeNumber_76 : decode cX10_takeNumber 76 = .ok (.aload_n 0, 1) := by decide +kernel
theorem dX10_takeNumber_77 : decode cX10_takeNumber 77 = .ok (.getfield 127, 3) := by decide +kernel
theorem dX10_takeNumber_80 : decode cX10_takeNumber 80 = .ok (.sipush 10000, 3) := by decide +kernel
theorem dX10_takeNumber_83 : decode cX10_takeNumber 83 = .ok (.if_icmp .le 10, 3) := by decide +kernel
theorem dX10_takeNumber_86 : decode cX10_takeNumber 86 = .ok (.aload_n 0, 1) := by decide +kernel
theorem dX10_takeNumber_87 : decode cX10_takeNumber 87 = .ok (.getfield 127, 3) := by decide +kernel
theorem dX10_takeNumber_90 : decode cX10_takeNumber 90 = .ok (.goto 23, 3) := by decide +kernel
theorem dX10_takeNumber_93 : decode cX10_takeNumber 93 = .ok (.bipush 10, 2) := by decide +kernel
theorem dX10_takeNumber_95 : decode cX10_takeNumber 95 = .ok (.aload_n 0, 1) := by decide +kernel
theorem dX10_takeNumber_96 : decode cX10_takeNumber 96 = .ok (.getfield 127, 3) := by decide +kernel
theorem dX10_takeNumber_99 : decode cX10_takeNumber 99 = .ok (.imul, 1) := by decide +kernel
theorem dX10_takeNumber_100 : decode cX10_takeNumber 100 = .ok (.aload_n 0, 1) := by decide +kernel
theorem dX10_takeNumber_101 : decode cX10_takeNumber 101 = .ok (.getfield 28, 3) := by decide +kernel
theorem dX10_takeNumber_104 : decode cX10_takeNumber 104 = .ok (.aload_n 0, 1) := by decide +kernel
theorem dX10_takeNumber_105 : decode cX10_takeNumber 105 = .ok (.getfield 109, 3) := by decide +kernel
theorem dX10_takeNumber_108 : decode cX10_takeNumber 108 = .ok (.iaload, 1) := by decide +kernel
theorem dX10_takeNumber_109 : decode cX10_takeNumber 109 = .ok (.iadd, 1) := by decide +kernel
theorem dX10_takeNumber_110 : decode cX10_takeNumber 110 = .ok (.bipush 48, 2) := by decide +kernel
theorem dX10_takeNumber_112 : decode cX10_takeNumber 112 = .ok (.isub, 1) := by decide +kernel
theorem dX10_takeNumber_113 : decode cX10_takeNumber 113 = .ok (.putfield 127, 3) := by decide +kernel
theorem dX10_takeNumber_116 : decode cX10_takeNumber 116 = .ok (.aload_n 0, 1) := by decide +kernel
theorem dX10_takeNumber_117 : decode cX10_takeNumber 117 = .ok (.dup, 1) := by decide +kernel
theorem dX10_takeNumber_118 : decode cX10_takeNumber 118 = .ok (.getfield 109, 3) := by decide +kernel
theorem dX10_takeNumber_121 : decode cX10_takeNumber 121 = .ok (.iconst 1, 1) := by decide +kernel
theorem dX10_takeNumber_122 : decode cX10_takeNumber 122 = .ok (.iadd, 1) := by decide +kernel
theorem dX10_takeNumber_123 : decode cX10_takeNumber 123 = .ok (.putfield 109, 3) := by decide +kernel
theorem dX10_takeNumber_126 : decode cX10_takeNumber 126 = .ok (.goto (-84), 3) := by decide +kernel
theorem dX10_takeNumber_129 : decode cX10_takeNumber 129 = .ok (.aload_n 0, 1) := by decide +kernel
theorem dX10_takeNumber_130 : decode cX10_takeNumber 130 = .ok (.getfield 109, 3) := by decide +kernel
theorem dX10_takeNumber_133 : decode cX10_takeNumber 133 = .ok (.aload_n 0, 1) := by decide +kernel
theorem dX10_takeNumber_134 : decode cX10_takeNumber 134 = .ok (.getfield 124, 3) := by decide +kernel
theorem dX10_takeNumber_137 : decode cX10_takeNumber 137 = .ok (.isub, 1) := by decide +kernel
theorem dX10_takeNumber_138 : decode cX10_takeNumber 138 = .ok (.iconst 3, 1) := by decide +kernel
theorem dX10_takeNumber_139 : decode cX10_takeNumber 139 = .ok (.if_icmp .gt 18, 3) := by decide +kernel
theorem dX10_takeNumber_142 : decode cX10_takeNumber 142 = .ok (.aload_n 0, 1) := by decide +kernel
theorem dX10_takeNumber_143 : decode cX10_takeNumber 143 = .ok (.getfield 127, 3) := by decide +kernel
theorem dX10_takeNumber_146 : decode cX10_takeNumber 146 = .ok (.i2l, 1) := by decide +kernel
theorem dX10_takeNumber_147 : decode cX10_takeNumber 147 = .ok (.iload_n 1, 1) := by decide +kernel
theorem dX10_takeNumber_148 : decode cX10_takeNumber 148 = .ok (.i2l, 1) := by decide +kernel
theorem dX10_takeNumber_149 : decode cX10_takeNumber 149 = .ok (.iload_n 2, 1) := by decide +kernel
theorem dX10_takeNumber_150 : decode cX10_takeNumber 150 = .ok (.i2l, 1) := by decide +kernel
theorem dX10_takeNumber_151 : decode cX10_takeNumber 151 = .ok (.invokestatic 96, 3) := by decide +kernel
theorem dX10_takeNumber_154 : decode cX10_takeNumber 154 = .ok (.ifCond .ne 15, 3) := by decide +kernel
theorem dX10_takeNumber_157 : decode cX10_takeNumber 157 = .ok (.aload_n 0, 1) := by decide +kernel
theorem dX10_takeNumber_158 : decode cX10_takeNumber 158 = .ok (.iconst 2, 1) := by decide +kernel
theorem dX10_takeNumber_159 : decode cX10_takeNumber 159 = .ok (.aload_n 0, 1) := by decide +kernel
theorem dX10_takeNumber_160 : decode cX10_takeNumber 160 = .ok (.getfield 124, 3) := by decide +kernel
theorem dX10_takeNumber_163 : decode cX10_takeNumber 163 = .ok (.invokevirtual 120, 3) := by decide +kernel
theorem dX10_takeNumber_166 : decode cX10_takeNumber 166 = .ok (.goto 4, 3) := by decide +kernel
theorem dX10_takeNumber_169 : decode cX10_takeNumber 169 = .ok (.iconst 0, 1) := by decide +kernel
theorem dX10_takeNumber_170 : decode cX10_takeNumber 170 = .ok (.ireturn, 1) := by decide +kernel
set_option maxRecDepth 20000 in
theorem ggX10_takeClauseOf_X10_takeNumber : GoodIn wsX10_takeClauseOf wsX10_takeNumber := goodIn_r _ [15, 16, 17, 18, 4, 3, 19, 20, 21, 22, 23, 14, 24, 25, 26, 27, 28, 29, 30, 31, 32, 33, 34, 35, 36, 37, 38, 39, 40, 41, 42, 43, 44, 45, 46, 47, 48, 49, 50, 51, 52, 53, 54, 55, 56, 57, 58, 59, 60, 61, 62, 63, 64, 65, 66, 67, 68, 69, 70] (by decide +kernel) (by decide +kernel)
set_option maxRecDepth 20000 in
theorem gX10_takeClauseOf_X10_takeNumber : GoodIn wsX10_takeClauseOf (wsV RX10 133 RX10 yX10_takeNumber wsX10_takeNumber) := goodIn_app (goodIn_of _ (by decide +kernel)) ggX10_takeClauseOf_X10_takeNumber
set_option maxRecDepth 20000 in
theorem ggX10_takeClauseOf_X10_fails : GoodIn wsX10_takeClauseOf wsX10_fails := goodIn_r _ [31, 32, 33, 34, 35, 36, 37, 38, 39, 40, 41, 42, 43, 44, 45, 46, 47, 48, 49, 50, 51, 52, 53, 54, 55, 56, 57, 58, 59, 60, 61, 62, 63, 64, 65, 66, 67, 68, 69, 70] (by decide +kernel) (by decide +kernel)
set_option maxRecDepth 20000 in
theorem gX10_takeClauseOf_X10_fails : GoodIn wsX10_takeClauseOf (wsV RX10 120 RX10 yX10_fails wsX10_fails) := goodIn_app (goodIn_of _ (by decide +kernel)) ggX10_takeClauseOf_X10_fails
theorem dX10_takeClauseOf_0 : decode cX10_takeClauseOf 0 = .ok (.aload_n 0, 1) := by decide +kernel
theorem dX10_takeClauseOf_1 : decode cX10_takeClauseOf 1 = .ok (.getfield 130, 3) := by decide +kernel
theorem dX10_takeClauseOf_4 : decode cX10_takeClauseOf 4 = .ok (.istore_n 2, 1) := by decide +kernel
theorem dX10_takeClauseOf_5 : decode cX10_takeClauseOf 5 = .ok (.aload_n 0, 1) := by decide +kernel
theorem dX10_takeClauseOf_6 : decode cX10_takeClauseOf 6 = .ok (.iconst 0, 1) := by decide +kernel
theorem dX10_takeClauseOf_7 : decode cX10_takeClauseOf 7 = .ok (.sipush 255, 3) := by decide +kernel
theorem dX10_takeClauseOf_10 : decode cX10_takeClauseOf 10 = .ok (.invokevirtual 133, 3) := by decide +kernel
theorem dX10_takeClauseOf_13 : decode cX10_takeClauseOf 13 = .ok (.istore_n 3, 1) := by decide +kernel
theorem dX10_takeClauseOf_14 : decode cX10_takeClauseOf 14 = .ok (.aload_n 0, 1) := by decide +kernel
theorem dX10_takeClauseOf_15 : decode cX10_takeClauseOf 15 = .ok (.getfield 35, 3) := by decide +kernel
theorem dX10_takeClauseOf_18 : decode cX10_takeClauseOf 18 = .ok (.iload_n 2, 1) := by decide +kernel
theorem dX10_takeClauseOf_19 : decode cX10_takeClauseOf 19 = .ok (.aload_n 0, 1) := by decide +kernel
theorem dX10_takeClauseOf_20 : decode cX10_takeClauseOf 20 = .ok (.getfield 127, 3) := by decide +kernel
theorem dX10_takeClauseOf_23 : decode cX10_takeClauseOf 23 = .ok (.iastore, 1) := by decide +kernel
theorem dX10_takeClauseOf_24 : decode cX10_takeClauseOf 24 = .ok (.iload_n 3, 1) := by decide +kernel
theorem dX10_takeClauseOf_25 : decode cX10_takeClauseOf 25 = .ok (.ifCond .le 7, 3) := by decide +kernel
theorem dX10_takeClauseOf_28 : decode cX10_takeClauseOf 28 = .ok (.iload_n 3, 1) := by decide +kernel
theorem dX10_takeClauseOf_29 : decode cX10_takeClauseOf 29 = .ok (.goto 11, 3) := by decide +kernel
theorem dX10_takeClauseOf_32 : decode cX10_takeClauseOf 32 = .ok (.aload_n 0, 1) := by decide +kernel
theorem dX10_takeClauseOf_33 : decode cX10_takeClauseOf 33 = .ok (.iconst 0, 1) := by decide +kernel
theorem dX10_takeClauseOf_34 : decode cX10_takeClauseOf 34 = .ok (.sipush 255, 3) := by decide +kernel
theorem dX10_takeClauseOf_37 : decode cX10_takeClauseOf 37 = .ok (.invokevirtual 133, 3) := by decide +kernel
theorem dX10_takeClauseOf_40 : decode cX10_takeClauseOf 40 = .ok (.istore_n 3, 1) := by decide +kernel
theorem dX10_takeClauseOf_41 : decode cX10_takeClauseOf 41 = .ok (.iload_n 3, 1) := by decide +kernel
theorem dX10_takeClauseOf_42 : decode cX10_takeClauseOf 42 = .ok (.ifCond .ne 27, 3) := by decide +kernel
theorem dX10_takeClauseOf_45 : decode cX10_takeClauseOf 45 = .ok (.aload_n 0, 1) := by decide +kernel
theorem dX10_takeClauseOf_46 : decode cX10_takeClauseOf 46 = .ok (.getfield 35, 3) := by decide +kernel
theorem dX10_takeClauseOf_49 : decode cX10_takeClauseOf 49 = .ok (.iload_n 2, 1) := by decide +kernel
theorem dX10_takeClauseOf_50 : decode cX10_takeClauseOf 50 = .ok (.iaload, 1) := by decide +kernel
theorem dX10_takeClauseOf_51 : decode cX10_takeClauseOf 51 = .ok (.aload_n 0, 1) := by decide +kernel
theorem dX10_takeClauseOf_52 : decode cX10_takeClauseOf 52 = .ok (.getfield 127, 3) := by decide +kernel
theorem dX10_takeClauseOf_55 : decode cX10_takeClauseOf 55 = .ok (.iand, 1) := by decide +kernel
theorem dX10_takeClauseOf_56 : decode cX10_takeClauseOf 56 = .ok (.ifCond .eq 13, 3) := by decide +kernel
theorem dX10_takeClauseOf_59 : decode cX10_takeClauseOf 59 = .ok (.aload_n 0, 1) := by decide +kernel
theorem dX10_takeClauseOf_60 : decode cX10_takeClauseOf 60 = .ok (.iconst 4, 1) := by decide +kernel
theorem dX10_takeClauseOf_61 : decode cX10_takeClauseOf 61 = .ok (.aload_n 0, 1) := by decide +kernel
theorem dX10_takeClauseOf_62 : decode cX10_takeClauseOf 62 = .ok (.getfield 124, 3) := by decide +kernel
theorem dX10_takeClauseOf_65 : decode cX10_takeClauseOf 65 = .ok (.invokevirtual 120, 3) := by decide +kernel
theorem dX10_takeClauseOf_68 : decode cX10_takeClauseOf 68 = .ok (.ireturn, 1) := by decide +kernel
theorem dX10_takeClauseOf_69 : decode cX10_takeClauseOf 69 = .ok (.aload_n 0, 1) := by decide +kernel
theorem dX10_takeClauseOf_70 : decode cX10_takeClauseOf 70 = .ok (.getfield 38, 3) := by decide +kernel
theorem dX10_takeClauseOf_73 : decode cX10_takeClauseOf 73 = .ok (.iload_n 2, 1) := by decide +kernel
theorem dX10_takeClauseOf_74 : decode cX10_takeClauseOf 74 = .ok (.aload_n 0, 1) := by decide +kernel
theorem dX10_takeClauseOf_75 : decode cX10_takeClauseOf 75 = .ok (.getfield 127, 3) := by decide +kernel
theorem dX10_takeClauseOf_78 : decode cX10_takeClauseOf 78 = .ok (.iastore, 1) := by decide +kernel
theorem dX10_takeClauseOf_79 : decode cX10_takeClauseOf 79 = .ok (.aload_n 0, 1) := by decide +kernel
theorem dX10_takeClauseOf_80 : decode cX10_takeClauseOf 80 = .ok (.getfield 41, 3) := by decide +kernel
theorem dX10_takeClauseOf_83 : decode cX10_takeClauseOf 83 = .ok (.iload_n 2, 1) := by decide +kernel
theorem dX10_takeClauseOf_84 : decode cX10_takeClauseOf 84 = .ok (.iload_n 1, 1) := by decide +kernel
theorem dX10_takeClauseOf_85 : decode cX10_takeClauseOf 85 = .ok (.iastore, 1) := by decide +kernel
theorem dX10_takeClauseOf_86 : decode cX10_takeClauseOf 86 = .ok (.aload_n 0, 1) := by decide +kernel
theorem dX10_takeClauseOf_87 : decode cX10_takeClauseOf 87 = .ok (.getfield 50, 3) := by decide +kernel
theorem dX10_takeClauseOf_90 : decode cX10_takeClauseOf 90 = .ok (.iload_n 2, 1) := by decide +kernel
theorem dX10_takeClauseOf_91 : decode cX10_takeClauseOf 91 = .ok (.iconst (-1), 1) := by decide +kernel
theorem dX10_takeClauseOf_92 : decode cX10_takeClauseOf 92 = .ok (.iastore, 1) := by decide +kernel
theorem dX10_takeClauseOf_93 : decode cX10_takeClauseOf 93 = .ok (.aload_n 0, 1) := by decide +kernel
theorem dX10_takeClauseOf_94 : decode cX10_takeClauseOf 94 = .ok (.getfield 44, 3) := by decide +kernel
theorem dX10_takeClauseOf_97 : decode cX10_takeClauseOf 97 = .ok (.iload_n 2, 1) := by decide +kernel
theorem dX10_takeClauseOf_98 : decode cX10_takeClauseOf 98 = .ok (.iconst (-1), 1) := by decide +kernel
theorem dX10_takeClauseOf_99 : decode cX10_takeClauseOf 99 = .ok (.iastore, 1) := by decide +kernel
theorem dX10_takeClauseOf_100 : decode cX10_takeClauseOf 100 = .ok (.aload_n 0, 1) := by decide +kernel
theorem dX10_takeClauseOf_101 : decode cX10_takeClauseOf 101 = .ok (.getfield 47, 3) := by decide +kernel
theorem dX10_takeClauseOf_104 : decode cX10_takeClauseOf 104 = .ok (.iload_n 2, 1) := by decide +kernel
theorem dX10_takeClauseOf_105 : decode cX10_takeClauseOf 105 = .ok (.iconst (-1), 1) := by decide +kernel
theorem dX10_takeClauseOf_106 : decode cX10_takeClauseOf 106 = .ok (.iastore, 1) := by decide +kernel
theorem dX10_takeClauseOf_107 : decode cX10_takeClauseOf 107 = .ok (.aload_n 0, 1) := by decide +kernel
theorem dX10_takeClauseOf_108 : decode cX10_takeClauseOf 108 = .ok (.dup, 1) := by decide +kernel
theorem dX10_takeClauseOf_109 : decode cX10_takeClauseOf 109 = .ok (.getfield 136, 3) := by decide +kernel
theorem dX10_takeClauseOf_112 : decode cX10_takeClauseOf 112 = .ok (.iconst 1, 1) := by decide +kernel
theorem dX10_takeClauseOf_113 : decode cX10_takeClauseOf 113 = .ok (.iadd, 1) := by decide +kernel
theorem dX10_takeClauseOf_114 : decode cX10_takeClauseOf 114 = .ok (.putfield 136, 3) := by decide +kernel
theorem dX10_takeClauseOf_117 : decode cX10_takeClauseOf 117 = .ok (.aload_n 0, 1) := by decide +kernel
theorem dX10_takeClauseOf_118 : decode cX10_takeClauseOf 118 = .ok (.dup, 1) := by decide +kernel
theorem dX10_takeClauseOf_119 : decode cX10_takeClauseOf 119 = .ok (.getfield 130, 3) := by decide +kernel
theorem dX10_takeClauseOf_122 : decode cX10_takeClauseOf 122 = .ok (.iconst 1, 1) := by decide +kernel
theorem dX10_takeClauseOf_123 : decode cX10_takeClauseOf 123 = .ok (.iadd, 1) := by decide +kernel
theorem dX10_takeClauseOf_124 : decode cX10_takeClauseOf 124 = .ok (.putfield 130, 3) := by decide +kernel
theorem dX10_takeClauseOf_127 : decode cX10_takeClauseOf 127 = .ok (.iload_n 3, 1) := by decide +kernel
theorem dX10_takeClauseOf_128 : decode cX10_takeClauseOf 128 = .ok (.ireturn, 1) := by decide +kernel
set_option maxRecDepth 20000 in
theorem ggX10_takeMade_X10_takeNumber : GoodIn wsX10_takeMade wsX10_takeNumber := goodIn_r _ [14, 15, 16, 17, 5, 2, 18, 19, 20, 21, 22, 13, 23, 24, 25, 26, 27, 28, 29, 30, 31, 35, 36, 37, 38, 39, 40, 41, 42, 43, 44, 45, 46, 47, 48, 49, 50, 51, 52, 53, 54, 55, 56, 57, 58, 59, 60, 61, 62, 63, 64, 65, 66, 67, 68, 69, 70, 71, 72] (by decide +kernel) (by decide +kernel)
set_option maxRecDepth 20000 in
theorem gX10_takeMade_X10_takeNumber : GoodIn wsX10_takeMade (wsV RX10 133 RX10 yX10_takeNumber wsX10_takeNumber) := goodIn_app (goodIn_of _ (by decide +kernel)) ggX10_takeMade_X10_takeNumber
set_option maxRecDepth 20000 in
theorem ggX10_takeMade_X10_has : GoodIn wsX10_takeMade wsX10_has := goodIn_r _ [34] (by decide +kernel) (by decide +kernel)
set_option maxRecDepth 20000 in
theorem gX10_takeMade_X10_has : GoodIn wsX10_takeMade (va_wsS RX10 139 yX10_has wsX10_has) := goodIn_app (goodIn_of _ (by decide +kernel)) ggX10_takeMade_X10_has
set_option maxRecDepth 20000 in
theorem ggX10_takeMade_X10_fails : GoodIn wsX10_takeMade wsX10_fails := goodIn_r _ [30, 31, 35, 36, 37, 38, 39, 40, 41, 42, 43, 44, 45, 46, 47, 48, 49, 50, 51, 52, 53, 54, 55, 56, 57, 58, 59, 60, 61, 62, 63, 64, 65, 66, 67, 68, 69, 70, 71, 72] (by decide +kernel) (by decide +kernel)
set_option maxRecDepth 20000 in
theorem gX10_takeMade_X10_fails : GoodIn wsX10_takeMade (wsV RX10 120 RX10 yX10_fails wsX10_fails) := goodIn_app (goodIn_of _ (by decide +kernel)) ggX10_takeMade_X10_fails
theorem dX10_takeMade_0 : decode cX10_takeMade 0 = .ok (.aload_n 0, 1) := by decide +kernel
theorem dX10_takeMade_1 : decode cX10_takeMade 1 = .ok (.getfield 130, 3) := by decide +kernel
theorem dX10_takeMade_4 : decode cX10_takeMade 4 = .ok (.istore_n 1, 1) := by decide +kernel
theorem dX10_takeMade_5 : decode cX10_takeMade 5 = .ok (.aload_n 0, 1) := by decide +kernel
theorem dX10_takeMade_6 : decode cX10_takeMade 6 = .ok (.iconst 0, 1) := by decide +kernel
theorem dX10_takeMade_7 : decode cX10_takeMade 7 = .ok (.iload_n 1, 1) := by decide +kernel
theorem dX10_takeMade_8 : decode cX10_takeMade 8 = .ok (.iconst 1, 1) := by decide +kernel
theorem dX10_takeMade_9 : decode cX10_takeMade 9 = .ok (.isub, 1) := by decide +kernel
theorem dX10_takeMade_10 : decode cX10_takeMade 10 = .ok (.invokevirtual 133, 3) := by decide +kernel
theorem dX10_takeMade_13 : decode cX10_takeMade 13 = .ok (.istore_n 2, 1) := by decide +kernel
theorem dX10_takeMade_14 : decode cX10_takeMade 14 = .ok (.aload_n 0, 1) := by decide +kernel
theorem dX10_takeMade_15 : decode cX10_takeMade 15 = .ok (.getfield 127, 3) := by decide +kernel
theorem dX10_takeMade_18 : decode cX10_takeMade 18 = .ok (.istore_n 3, 1) := by decide +kernel
theorem dX10_takeMade_19 : decode cX10_takeMade 19 = .ok (.iload_n 2, 1) := by decide +kernel
theorem dX10_takeMade_20 : decode cX10_takeMade 20 = .ok (.ifCond .le 7, 3) := by decide +kernel
theorem dX10_takeMade_23 : decode cX10_takeMade 23 = .ok (.iload_n 2, 1) := by decide +kernel
theorem dX10_takeMade_24 : decode cX10_takeMade 24 = .ok (.goto 11, 3) := by decide +kernel
theorem dX10_takeMade_27 : decode cX10_takeMade 27 = .ok (.aload_n 0, 1) := by decide +kernel
theorem dX10_takeMade_28 : decode cX10_takeMade 28 = .ok (.iconst 0, 1) := by decide +kernel
theorem dX10_takeMade_29 : decode cX10_takeMade 29 = .ok (.iload_n 1, 1) := by decide +kernel
theorem dX10_takeMade_30 : decode cX10_takeMade 30 = .ok (.iconst 1, 1) := by decide +kernel
theorem dX10_takeMade_31 : decode cX10_takeMade 31 = .ok (.isub, 1) := by decide +kernel
theorem dX10_takeMade_32 : decode cX10_takeMade 32 = .ok (.invokevirtual 133, 3) := by decide +kernel
theorem dX10_takeMade_35 : decode cX10_takeMade 35 = .ok (.istore_n 2, 1) := by decide +kernel
theorem dX10_takeMade_36 : decode cX10_takeMade 36 = .ok (.aload_n 0, 1) := by decide +kernel
theorem dX10_takeMade_37 : decode cX10_takeMade 37 = .ok (.getfield 127, 3) := by decide +kernel
theorem dX10_takeMade_40 : decode cX10_takeMade 40 = .ok (.istore 4, 2) := by decide +kernel
theorem dX10_takeMade_42 : decode cX10_takeMade 42 = .ok (.iload_n 2, 1) := by decide +kernel
theorem dX10_takeMade_43 : decode cX10_takeMade 43 = .ok (.ifCond .le 7, 3) := by decide +kernel
theorem dX10_takeMade_46 : decode cX10_takeMade 46 = .ok (.iload_n 2, 1) := by decide +kernel
theorem dX10_takeMade_47 : decode cX10_takeMade 47 = .ok (.goto 10, 3) := by decide +kernel
theorem dX10_takeMade_50 : decode cX10_takeMade 50 = .ok (.aload_n 0, 1) := by decide +kernel
theorem dX10_takeMade_51 : decode cX10_takeMade 51 = .ok (.iconst 0, 1) := by decide +kernel
theorem dX10_takeMade_52 : decode cX10_takeMade 52 = .ok (.bipush 7, 2) := by decide +kernel
theorem dX10_takeMade_54 : decode cX10_takeMade 54 = .ok (.invokevirtual 133, 3) := by decide +kernel
theorem dX10_takeMade_57 : decode cX10_takeMade 57 = .ok (.istore_n 2, 1) := by decide +kernel
theorem dX10_takeMade_58 : decode cX10_takeMade 58 = .ok (.iload_n 2, 1) := by decide +kernel
theorem dX10_takeMade_59 : decode cX10_takeMade 59 = .ok (.ifCond .le 5, 3) := by decide +kernel
theorem dX10_takeMade_62 : decode cX10_takeMade 62 = .ok (.iload_n 2, 1) := by decide +kernel
theorem dX10_takeMade_63 : decode cX10_takeMade 63 = .ok (.ireturn, 1) := by decide +kernel
theorem dX10_takeMade_64 : decode cX10_takeMade 64 = .ok (.aload_n 0, 1) := by decide +kernel
theorem dX10_takeMade_65 : decode cX10_takeMade 65 = .ok (.getfield 127, 3) := by decide +kernel
theorem dX10_takeMade_68 : decode cX10_takeMade 68 = .ok (.istore 5, 2) := by decide +kernel
theorem dX10_takeMade_70 : decode cX10_takeMade 70 = .ok (.aload_n 0, 1) := by decide +kernel
theorem dX10_takeMade_71 : decode cX10_takeMade 71 = .ok (.getfield 35, 3) := by decide +kernel
theorem dX10_takeMade_74 : decode cX10_takeMade 74 = .ok (.iload_n 3, 1) := by decide +kernel
theorem dX10_takeMade_75 : decode cX10_takeMade 75 = .ok (.iaload, 1) := by decide +kernel
theorem dX10_takeMade_76 : decode cX10_takeMade 76 = .ok (.aload_n 0, 1) := by decide +kernel
theorem dX10_takeMade_77 : decode cX10_takeMade 77 = .ok (.getfield 35, 3) := by decide +kernel
theorem dX10_takeMade_80 : decode cX10_takeMade 80 = .ok (.iload 4, 2) := by decide +kernel
theorem dX10_takeMade_82 : decode cX10_takeMade 82 = .ok (.iaload, 1) := by decide +kernel
theorem dX10_takeMade_83 : decode cX10_takeMade 83 = .ok (.ior, 1) := by decide +kernel
theorem dX10_takeMade_84 : decode cX10_takeMade 84 = .ok (.iconst 1, 1) := by decide +kernel
theorem dX10_takeMade_85 : decode cX10_takeMade 85 = .ok (.iload 5, 2) := by decide +kernel
theorem dX10_takeMade_87 : decode cX10_takeMade 87 = .ok (.ishl, 1) := by decide +kernel
theorem dX10_takeMade_88 : decode cX10_takeMade 88 = .ok (.iconst (-1), 1) := by decide +kernel
theorem dX10_takeMade_89 : decode cX10_takeMade 89 = .ok (.ixor, 1) := by decide +kernel
theorem dX10_takeMade_90 : decode cX10_takeMade 90 = .ok (.iand, 1) := by decide +kernel
theorem dX10_takeMade_91 : decode cX10_takeMade 91 = .ok (.istore 6, 2) := by decide +kernel
theorem dX10_takeMade_93 : decode cX10_takeMade 93 = .ok (.aload_n 0, 1) := by decide +kernel
theorem dX10_takeMade_94 : decode cX10_takeMade 94 = .ok (.getfield 38, 3) := by decide +kernel
theorem dX10_takeMade_97 : decode cX10_takeMade 97 = .ok (.iload_n 3, 1) := by decide +kernel
theorem dX10_takeMade_98 : decode cX10_takeMade 98 = .ok (.iaload, 1) := by decide +kernel
theorem dX10_takeMade_99 : decode cX10_takeMade 99 = .ok (.aload_n 0, 1) := by decide +kernel
theorem dX10_takeMade_100 : decode cX10_takeMade 100 = .ok (.getfield 38, 3) := by decide +kernel
theorem dX10_takeMade_103 : decode cX10_takeMade 103 = .ok (.iload 4, 2) := by decide +kernel
theorem dX10_takeMade_105 : decode cX10_takeMade 105 = .ok (.iaload, 1) := by decide +kernel
theorem dX10_takeMade_106 : decode cX10_takeMade 106 = .ok (.ior, 1) := by decide +kernel
theorem dX10_takeMade_107 : decode cX10_takeMade 107 = .ok (.iconst 1, 1) := by decide +kernel
theorem dX10_takeMade_108 : decode cX10_takeMade 108 = .ok (.iload 5, 2) := by decide +kernel
theorem dX10_takeMade_110 : decode cX10_takeMade 110 = .ok (.ishl, 1) := by decide +kernel
theorem dX10_takeMade_111 : decode cX10_takeMade 111 = .ok (.iconst (-1), 1) := by decide +kernel
theorem dX10_takeMade_112 : decode cX10_takeMade 112 = .ok (.ixor, 1) := by decide +kernel
theorem dX10_takeMade_113 : decode cX10_takeMade 113 = .ok (.iand, 1) := by decide +kernel
theorem dX10_takeMade_114 : decode cX10_takeMade 114 = .ok (.istore 7, 2) := by decide +kernel
theorem dX10_takeMade_116 : decode cX10_takeMade 116 = .ok (.aload_n 0, 1) := by decide +kernel
theorem dX10_takeMade_117 : decode cX10_takeMade 117 = .ok (.getfield 35, 3) := by decide +kernel
theorem dX10_takeMade_120 : decode cX10_takeMade 120 = .ok (.iload_n 3, 1) := by decide +kernel
theorem dX10_takeMade_121 : decode cX10_takeMade 121 = .ok (.iaload, 1) := by decide +kernel
theorem dX10_takeMade_122 : decode cX10_takeMade 122 = .ok (.iload 5, 2) := by decide +kernel
theorem dX10_takeMade_124 : decode cX10_takeMade 124 = .ok (.invokestatic 139, 3) := by decide +kernel
theorem dX10_takeMade_127 : decode cX10_takeMade 127 = .ok (.ifCond .eq 26, 3) := by decide +kernel
theorem dX10_takeMade_130 : decode cX10_takeMade 130 = .ok (.aload_n 0, 1) := by decide +kernel
theorem dX10_takeMade_131 : decode cX10_takeMade 131 = .ok (.getfield 38, 3) := by decide +kernel
theorem dX10_takeMade_134 : decode cX10_takeMade 134 = .ok (.iload 4, 2) := by decide +kernel
theorem dX10_takeMade_136 : decode cX10_takeMade 136 = .ok (.iaload, 1) := by decide +kernel
theorem dX10_takeMade_137 : decode cX10_takeMade 137 = .ok (.iload 5, 2) := by decide +kernel
theorem dX10_takeMade_139 : decode cX10_takeMade 139 = .ok (.invokestatic 139, 3) := by decide +kernel
theorem dX10_takeMade_142 : decode cX10_takeMade 142 = .ok (.ifCond .eq 11, 3) := by decide +kernel
theorem dX10_takeMade_145 : decode cX10_takeMade 145 = .ok (.iload 6, 2) := by decide +kernel
theorem dX10_takeMade_147 : decode cX10_takeMade 147 = .ok (.iload 7, 2) := by decide +kernel
theorem dX10_takeMade_149 : decode cX10_takeMade 149 = .ok (.iand, 1) := by decide +kernel
theorem dX10_takeMade_150 : decode cX10_takeMade 150 = .ok (.ifCond .eq 13, 3) := by decide +kernel
theorem dX10_takeMade_153 : decode cX10_takeMade 153 = .ok (.aload_n 0, 1) := by decide +kernel
theorem dX10_takeMade_154 : decode cX10_takeMade 154 = .ok (.iconst 4, 1) := by decide +kernel
theorem dX10_takeMade_155 : decode cX10_takeMade 155 = .ok (.aload_n 0, 1) := by decide +kernel
theorem dX10_takeMade_156 : decode cX10_takeMade 156 = .ok (.getfield 124, 3) := by decide +kernel
theorem dX10_takeMade_159 : decode cX10_takeMade 159 = .ok (.invokevirtual 120, 3) := by decide +kernel
theorem dX10_takeMade_162 : decode cX10_takeMade 162 = .ok (.ireturn, 1) := by decide +kernel
theorem dX10_takeMade_163 : decode cX10_takeMade 163 = .ok (.aload_n 0, 1) := by decide +kernel
theorem dX10_takeMade_164 : decode cX10_takeMade 164 = .ok (.getfield 35, 3) := by decide +kernel
theorem dX10_takeMade_167 : decode cX10_takeMade 167 = .ok (.iload_n 1, 1) := by decide +kernel
theorem dX10_takeMade_168 : decode cX10_takeMade 168 = .ok (.iload 6, 2) := by decide +kernel
theorem dX10_takeMade_170 : decode cX10_takeMade 170 = .ok (.iastore, 1) := by decide +kernel
theorem dX10_takeMade_171 : decode cX10_takeMade 171 = .ok (.aload_n 0, 1) := by decide +kernel
theorem dX10_takeMade_172 : decode cX10_takeMade 172 = .ok (.getfield 38, 3) := by decide +kernel
theorem dX10_takeMade_175 : decode cX10_takeMade 175 = .ok (.iload_n 1, 1) := by decide +kernel
theorem dX10_takeMade_176 : decode cX10_takeMade 176 = .ok (.iload 7, 2) := by decide +kernel
theorem dX10_takeMade_178 : decode cX10_takeMade 178 = .ok (.iastore, 1) := by decide +kernel
theorem dX10_takeMade_179 : decode cX10_takeMade 179 = .ok (.aload_n 0, 1) := by decide +kernel
theorem dX10_takeMade_180 : decode cX10_takeMade 180 = .ok (.getfield 41, 3) := by decide +kernel
theorem dX10_takeMade_183 : decode cX10_takeMade 183 = .ok (.iload_n 1, 1) := by decide +kernel
theorem dX10_takeMade_184 : decode cX10_takeMade 184 = .ok (.iconst (-1), 1) := by decide +kernel
theorem dX10_takeMade_185 : decode cX10_takeMade 185 = .ok (.iastore, 1) := by decide +kernel
theorem dX10_takeMade_186 : decode cX10_takeMade 186 = .ok (.aload_n 0, 1) := by decide +kernel
theorem dX10_takeMade_187 : decode cX10_takeMade 187 = .ok (.getfield 44, 3) := by decide +kernel
theorem dX10_takeMade_190 : decode cX10_takeMade 190 = .ok (.iload_n 1, 1) := by decide +kernel
theorem dX10_takeMade_191 : decode cX10_takeMade 191 = .ok (.iload_n 3, 1) := by decide +kernel
theorem dX10_takeMade_192 : decode cX10_takeMade 192 = .ok (.iastore, 1) := by decide +kernel
theorem dX10_takeMade_193 : decode cX10_takeMade 193 = .ok (.aload_n 0, 1) := by decide +kernel
theorem dX10_takeMade_194 : decode cX10_takeMade 194 = .ok (.getfield 47, 3) := by decide +kernel
theorem dX10_takeMade_197 : decode cX10_takeMade 197 = .ok (.iload_n 1, 1) := by decide +kernel
theorem dX10_takeMade_198 : decode cX10_takeMade 198 = .ok (.iload 4, 2) := by decide +kernel
theorem dX10_takeMade_200 : decode cX10_takeMade 200 = .ok (.iastore, 1) := by decide +kernel
theorem dX10_takeMade_201 : decode cX10_takeMade 201 = .ok (.aload_n 0, 1) := by decide +kernel
theorem dX10_takeMade_202 : decode cX10_takeMade 202 = .ok (.getfield 50, 3) := by decide +kernel
theorem dX10_takeMade_205 : decode cX10_takeMade 205 = .ok (.iload_n 1, 1) := by decide +kernel
theorem dX10_takeMade_206 : decode cX10_takeMade 206 = .ok (.iload 5, 2) := by decide +kernel
theorem dX10_takeMade_208 : decode cX10_takeMade 208 = .ok (.iastore, 1) := by decide +kernel
theorem dX10_takeMade_209 : decode cX10_takeMade 209 = .ok (.aload_n 0, 1) := by decide +kernel
theorem dX10_takeMade_210 : decode cX10_takeMade 210 = .ok (.dup, 1) := by decide +kernel
theorem dX10_takeMade_211 : decode cX10_takeMade 211 = .ok (.getfield 130, 3) := by decide +kernel
theorem dX10_takeMade_214 : decode cX10_takeMade 214 = .ok (.iconst 1, 1) := by decide +kernel
theorem dX10_takeMade_215 : decode cX10_takeMade 215 = .ok (.iadd, 1) := by decide +kernel
theorem dX10_takeMade_216 : decode cX10_takeMade 216 = .ok (.putfield 130, 3) := by decide +kernel
theorem dX10_takeMade_219 : decode cX10_takeMade 219 = .ok (.iconst 0, 1) := by decide +kernel
theorem dX10_takeMade_220 : decode cX10_takeMade 220 = .ok (.ireturn, 1) := by decide +kernel
set_option maxRecDepth 20000 in
theorem ggX10_takeWord_X10_here : GoodIn wsX10_takeWord wsX10_here := goodIn_r _ [8, 3, 9, 10, 44, 45, 46, 47, 48, 49, 50, 51, 52, 53, 54, 55, 56, 57, 58, 59, 60, 61, 62, 63, 64, 65, 66, 67, 68, 69, 70, 71, 72, 73, 74, 75, 76, 77, 78, 79, 80, 81] (by decide +kernel) (by decide +kernel)
set_option maxRecDepth 20000 in
theorem gX10_takeWord_X10_here : GoodIn wsX10_takeWord (wsV RX10 112 RX10 yX10_here wsX10_here) := goodIn_app (goodIn_of _ (by decide +kernel)) ggX10_takeWord_X10_here
set_option maxRecDepth 20000 in
theorem ggX10_takeWord_X10_fails : GoodIn wsX10_takeWord wsX10_fails := goodIn_r _ [14, 15, 44, 45, 46, 47, 48, 49, 50, 51, 52, 53, 54, 55, 56, 57, 58, 59, 60, 61, 62, 63, 64, 65, 66, 67, 68, 69, 70, 71, 72, 73, 74, 75, 76, 77, 78, 79, 80, 81] (by decide +kernel) (by decide +kernel)
set_option maxRecDepth 20000 in
theorem gX10_takeWord_X10_fails : GoodIn wsX10_takeWord (wsV RX10 120 RX10 yX10_fails wsX10_fails) := goodIn_app (goodIn_of _ (by decide +kernel)) ggX10_takeWord_X10_fails
set_option maxRecDepth 20000 in
theorem ggX10_takeWord_X10_takeClauseOf : GoodIn wsX10_takeWord wsX10_takeClauseOf := goodIn_r _ [19, 1, 20, 21, 22, 23, 24, 25, 26, 27, 2, 28, 29, 30, 7, 31, 32, 33, 3, 9, 10, 4, 5, 6, 8, 34, 35, 36, 11, 12, 13, 14, 15, 44, 45, 46, 47, 48, 49, 50, 51, 52, 53, 54, 55, 56, 57, 58, 59, 60, 61, 62, 63, 64, 65, 66, 67, 68, 69, 70, 71, 72, 73, 74, 75, 76, 77, 78, 79, 80, 81] (by decide +kernel) (by decide +kernel)
set_option maxRecDepth 20000 in
theorem gX10_takeWord_X10_takeClauseOf : GoodIn wsX10_takeWord (wsV RX10 143 RX10 yX10_takeClauseOf wsX10_takeClauseOf) := goodIn_app (goodIn_of _ (by decide +kernel)) ggX10_takeWord_X10_takeClauseOf
set_option maxRecDepth 20000 in
theorem ggX10_takeWord_X10_takeMade : GoodIn wsX10_takeWord wsX10_takeMade := goodIn_r _ [40, 1, 21, 20, 23, 22, 24, 26, 27, 25, 28, 29, 30, 7, 31, 32, 33, 3, 9, 10, 4, 5, 6, 8, 34, 35, 36, 11, 12, 13, 14, 15, 41, 42, 43, 44, 45, 46, 47, 48, 49, 50, 51, 52, 53, 54, 55, 56, 57, 58, 59, 60, 61, 62, 63, 64, 65, 66, 67, 68, 69, 70, 71, 72, 73, 74, 75, 76, 77, 78, 79, 80, 81] (by decide +kernel) (by decide +kernel)
set_option maxRecDepth 20000 in
theorem gX10_takeWord_X10_takeMade : GoodIn wsX10_takeWord (wsV RX10 147 RX10 yX10_takeMade wsX10_takeMade) := goodIn_app (goodIn_of _ (by decide +kernel)) ggX10_takeWord_X10_takeMade
theorem dX10_takeWord_0 : decode cX10_takeWord 0 = .ok (.aload_n 0, 1) := by decide +kernel
theorem dX10_takeWord_1 : decode cX10_takeWord 1 = .ok (.invokevirtual 112, 3) := by decide +kernel
theorem dX10_takeWord_4 : decode cX10_takeWord 4 = .ok (.istore_n 1, 1) := by decide +kernel
theorem dX10_takeWord_5 : decode cX10_takeWord 5 = .ok (.iload_n 1, 1) := by decide +kernel
theorem dX10_takeWord_6 : decode cX10_takeWord 6 = .ok (.bipush 97, 2) := by decide +kernel
theorem dX10_takeWord_8 : decode cX10_takeWord 8 = .ok (.if_icmp .eq 9, 3) := by decide +kernel
theorem dX10_takeWord_11 : decode cX10_takeWord 11 = .ok (.iload_n 1, 1) := by decide +kernel
theorem dX10_takeWord_12 : decode cX10_takeWord 12 = .ok (.bipush 98, 2) := by decide +kernel
theorem dX10_takeWord_14 : decode cX10_takeWord 14 = .ok (.if_icmp .ne 7, 3) := by decide +kernel
theorem dX10_takeWord_17 : decode cX10_takeWord 17 = .ok (.iconst 1, 1) := by decide +kernel
theorem dX10_takeWord_18 : decode cX10_takeWord 18 = .ok (.goto 4, 3) := by decide +kernel
theorem dX10_takeWord_21 : decode cX10_takeWord 21 = .ok (.iconst 0, 1) := by decide +kernel
theorem dX10_takeWord_22 : decode cX10_takeWord 22 = .ok (.istore_n 2, 1) := by decide +kernel
theorem dX10_takeWord_23 : decode cX10_takeWord 23 = .ok (.iload_n 1, 1) := by decide +kernel
theorem dX10_takeWord_24 : decode cX10_takeWord 24 = .ok (.bipush 114, 2) := by decide +kernel
theorem dX10_takeWord_26 : decode cX10_takeWord 26 = .ok (.if_icmp .eq 7, 3) := by decide +kernel
theorem dX10_takeWord_29 : decode cX10_takeWord 29 = .ok (.iload_n 2, 1) := by decide +kernel
theorem dX10_takeWord_30 : decode cX10_takeWord 30 = .ok (.ifCond .eq 18, 3) := by decide +kernel
theorem dX10_takeWord_33 : decode cX10_takeWord 33 = .ok (.iload_n 2, 1) := by decide +kernel
theorem dX10_takeWord_34 : decode cX10_takeWord 34 = .ok (.ifCond .eq 24, 3) := by decide +kernel
theorem dX10_takeWord_37 : decode cX10_takeWord 37 = .ok (.aload_n 0, 1) := by decide +kernel
theorem dX10_takeWord_38 : decode cX10_takeWord 38 = .ok (.getfield 130, 3) := by decide +kernel
theorem dX10_takeWord_41 : decode cX10_takeWord 41 = .ok (.aload_n 0, 1) := by decide +kernel
theorem dX10_takeWord_42 : decode cX10_takeWord 42 = .ok (.getfield 136, 3) := by decide +kernel
theorem dX10_takeWord_45 : decode cX10_takeWord 45 = .ok (.if_icmp .le 13, 3) := by decide +kernel
theorem dX10_takeWord_48 : decode cX10_takeWord 48 = .ok (.aload_n 0, 1) := by decide +kernel
theorem dX10_takeWord_49 : decode cX10_takeWord 49 = .ok (.iconst 1, 1) := by decide +kernel
theorem dX10_takeWord_50 : decode cX10_takeWord 50 = .ok (.aload_n 0, 1) := by decide +kernel
theorem dX10_takeWord_51 : decode cX10_takeWord 51 = .ok (.getfield 109, 3) := by decide +kernel
theorem dX10_takeWord_54 : decode cX10_takeWord 54 = .ok (.invokevirtual 120, 3) := by decide +kernel
theorem dX10_takeWord_57 : decode cX10_takeWord 57 = .ok (.ireturn, 1) := by decide +kernel
theorem dX10_takeWord_58 : decode cX10_takeWord 58 = .ok (.iload_n 2, 1) := by decide +kernel
theorem dX10_takeWord_59 : decode cX10_takeWord 59 = .ok (.ifCond .eq 15, 3) := by decide +kernel
theorem dX10_takeWord_62 : decode cX10_takeWord 62 = .ok (.aload_n 0, 1) := by decide +kernel
theorem dX10_takeWord_63 : decode cX10_takeWord 63 = .ok (.getfield 136, 3) := by decide +kernel
theorem dX10_takeWord_66 : decode cX10_takeWord 66 = .ok (.bipush 10, 2) := by decide +kernel
theorem dX10_takeWord_68 : decode cX10_takeWord 68 = .ok (.if_icmp .ne 30, 3) := by decide +kernel
theorem dX10_takeWord_71 : decode cX10_takeWord 71 = .ok (.goto 17, 3) := by decide +kernel
theorem dX10_takeWord_74 : decode cX10_takeWord 74 = .ok (.aload_n 0, 1) := by decide +kernel
theorem dX10_takeWord_75 : decode cX10_takeWord 75 = .ok (.getfield 130, 3) := by decide +kernel
theorem dX10_takeWord_78 : decode cX10_takeWord 78 = .ok (.aload_n 0, 1) := by decide +kernel
theorem dX10_takeWord_79 : decode cX10_takeWord 79 = .ok (.getfield 136, 3) := by decide +kernel
theorem dX10_takeWord_82 : decode cX10_takeWord 82 = .ok (.isub, 1) := by decide +kernel
theorem dX10_takeWord_83 : decode cX10_takeWord 83 = .ok (.bipush 30, 2) := by decide +kernel
theorem dX10_takeWord_85 : decode cX10_takeWord 85 = .ok (.if_icmp .ne 13, 3) := by decide +kernel
theorem dX10_takeWord_88 : decode cX10_takeWord 88 = .ok (.aload_n 0, 1) := by decide +kernel
theorem dX10_takeWord_89 : decode cX10_takeWord 89 = .ok (.iconst 3, 1) := by decide +kernel
theorem dX10_takeWord_90 : decode cX10_takeWord 90 = .ok (.aload_n 0, 1) := by decide +kernel
theorem dX10_takeWord_91 : decode cX10_takeWord 91 = .ok (.getfield 109, 3) := by decide +kernel
theorem dX10_takeWord_94 : decode cX10_takeWord 94 = .ok (.invokevirtual 120, 3) := by decide +kernel
theorem dX10_takeWord_97 : decode cX10_takeWord 97 = .ok (.ireturn, 1) := by decide +kernel
theorem dX10_takeWord_98 : decode cX10_takeWord 98 = .ok (.aload_n 0, 1) := by decide +kernel
theorem dX10_takeWord_99 : decode cX10_takeWord 99 = .ok (.dup, 1) := by decide +kernel
theorem dX10_takeWord_100 : decode cX10_takeWord 100 = .ok (.getfield 109, 3) := by decide +kernel
theorem dX10_takeWord_103 : decode cX10_takeWord 103 = .ok (.iconst 1, 1) := by decide +kernel
theorem dX10_takeWord_104 : decode cX10_takeWord 104 = .ok (.iadd, 1) := by decide +kernel
theorem dX10_takeWord_105 : decode cX10_takeWord 105 = .ok (.putfield 109, 3) := by decide +kernel
theorem dX10_takeWord_108 : decode cX10_takeWord 108 = .ok (.iload_n 2, 1) := by decide +kernel
theorem dX10_takeWord_109 : decode cX10_takeWord 109 = .ok (.ifCond .eq 21, 3) := by decide +kernel
theorem dX10_takeWord_112 : decode cX10_takeWord 112 = .ok (.aload_n 0, 1) := by decide +kernel
theorem dX10_takeWord_113 : decode cX10_takeWord 113 = .ok (.iload_n 1, 1) := by decide +kernel
theorem dX10_takeWord_114 : decode cX10_takeWord 114 = .ok (.bipush 97, 2) := by decide +kernel
theorem dX10_takeWord_116 : decode cX10_takeWord 116 = .ok (.if_icmp .ne 7, 3) := by decide +kernel
theorem dX10_takeWord_119 : decode cX10_takeWord 119 = .ok (.iconst 0, 1) := by decide +kernel
theorem dX10_takeWord_120 : decode cX10_takeWord 120 = .ok (.goto 4, 3) := by decide +kernel
theorem dX10_takeWord_123 : decode cX10_takeWord 123 = .ok (.iconst 1, 1) := by decide +kernel
theorem dX10_takeWord_124 : decode cX10_takeWord 124 = .ok (.invokevirtual 143, 3) := by decide +kernel
theorem dX10_takeWord_127 : decode cX10_takeWord 127 = .ok (.goto 7, 3) := by decide +kernel
theorem dX10_takeWord_130 : decode cX10_takeWord 130 = .ok (.aload_n 0, 1) := by decide +kernel
theorem dX10_takeWord_131 : decode cX10_takeWord 131 = .ok (.invokevirtual 147, 3) := by decide +kernel
theorem dX10_takeWord_134 : decode cX10_takeWord 134 = .ok (.istore_n 3, 1) := by decide +kernel
theorem dX10_takeWord_135 : decode cX10_takeWord 135 = .ok (.iload_n 3, 1) := by decide +kernel
theorem dX10_takeWord_136 : decode cX10_takeWord 136 = .ok (.ifCond .ne 22, 3) := by decide +kernel
theorem dX10_takeWord_139 : decode cX10_takeWord 139 = .ok (.aload_n 0, 1) := by decide +kernel
theorem dX10_takeWord_140 : decode cX10_takeWord 140 = .ok (.invokevirtual 112, 3) := by decide +kernel
theorem dX10_takeWord_143 : decode cX10_takeWord 143 = .ok (.bipush 59, 2) := by decide +kernel
theorem dX10_takeWord_145 : decode cX10_takeWord 145 = .ok (.if_icmp .eq 13, 3) := by decide +kernel
theorem dX10_takeWord_148 : decode cX10_takeWord 148 = .ok (.aload_n 0, 1) := by decide +kernel
theorem dX10_takeWord_149 : decode cX10_takeWord 149 = .ok (.iconst 1, 1) := by decide +kernel
theorem dX10_takeWord_150 : decode cX10_takeWord 150 = .ok (.aload_n 0, 1) := by decide +kernel
theorem dX10_takeWord_151 : decode cX10_takeWord 151 = .ok (.getfield 109, 3) := by decide +kernel
theorem dX10_takeWord_154 : decode cX10_takeWord 154 = .ok (.invokevirtual 120, 3) := by decide +kernel
theorem dX10_takeWord_157 : decode cX10_takeWord 157 = .ok (.ireturn, 1) := by decide +kernel
theorem dX10_takeWord_158 : decode cX10_takeWord 158 = .ok (.aload_n 0, 1) := by decide +kernel
theorem dX10_takeWord_159 : decode cX10_takeWord 159 = .ok (.dup, 1) := by decide +kernel
